/-! the reference's constructor -/
def m_fill (k : Nat) (L : List Int32) : Nat → ow_S → ow_S
  | 0, σ => σ
  | n + 1, σ => ow_sI (m_fill k L n σ) k n (L.getD n 0)
theorem gdf_fill {k c : Nat} (hc : c ≠ k) (L : List Int32) : ∀ (n : Nat) {σ : ow_S}, gdf σ c → gdf (m_fill k L n σ) c := by
  intro n
  induction n with
  | zero => intro σ h; exact h
  | succ n ih => intro σ h; exact (ih h).sI hc
theorem g_ild {p : Program} {l : Launch} {e : Env} {R : Room} {s : State} {m : MethodId} {args : Array Value} {below : List Frame} {meth : Method} {c : Code} {H : Heap} {locs : List Loc} {cells slots : Nat} {Q : State → Prop} {cc : ByteArray} {pc : Nat} {ls : Array Slot} {rest : List Value} {Z : ow_Z} {A : Nat → Prop} {lo : Nat} {ads : List Nat} {σ : ow_S} {k : Nat} (hexec : p.tables.exec = Jvm.exec) (hb : c.code = cc) (hK : va_K Z.1 vwCl (ow_ty Z) s) (hW : gW Z A lo ads σ s H locs) {ha L : Nat} (hha : ow_ad (gz Z lo ads) k = ha) (h1 : lo ≤ k) (h2 : k < lo + ads.length) (hk : ow_K k = 10) (hL : ow_n k = L) {i : Nat} (hi : i < L) (hL2 : L < 2 ^ 31) (hdg : decode cc pc = .ok (.iaload, 1))
    (kk : W p l e R s m args below meth c H locs cells slots Q (F0 m (pc + 1) ls (.int (σ.1 k i) :: rest))) : W p l e R s m args below meth c H locs cells slots Q (F0 m pc ls (.int (nI i) :: .ref ha :: rest)) := by
  subst hha; subst hL
  refine va_iald (D := Z.1) (cA := Z.2.1 10) (n := ow_n k) (f := σ.1 k) hexec hb hK hW.1 (k - lo) 0 (by rw [gws_at Z σ h1 h2, ow_E_int _ σ hk]; rfl) rfl (vp_in_nI hi hL2) hdg ?_
  rw [n_cl (by omega)]; exact kk
def m_cp : Nat → Nat → ow_S → ow_S
  | 0, _, σ => σ
  | q + 1, i, σ => m_cp q (i + 1) (ow_sI σ 61 i (σ.1 69 i))
def m9_L66 : List Int32 := [(-1), (-1), (-1), (-1)]
set_option maxHeartbeats 2000000 in
set_option maxRecDepth 100000 in
theorem m9_f66 {p : Program} {l : Launch} {e : Env} {R : Room} {s : State} {m : MethodId} {args : Array Value} {below : List Frame} {meth : Method} {c : Code} {H : Heap} {locs : List Loc} {cells slots : Nat} {Q : State → Prop} {ls : Array Slot} {Z : ow_Z} {A : Nat → Prop} {ads : List Nat} {σ : ow_S} {q h : Nat} (hx : p.tables.exec = Jvm.exec) (hb : c.code = cX9_init) (hK : va_K Z.1 vwCl (ow_ty Z) s) (hW : gW Z A 56 ads σ s H locs) (ha : ow_ad (gz Z 56 ads) 66 = q) (hn : 66 < 56 + ads.length) (kk : ∀ (H : Heap) (locs : List Loc), gW Z A 56 ads (m_fill 66 m9_L66 4 σ) s H locs → W p l e R s m args below meth c H locs cells slots Q (F0 m 102 ls [.ref q, .ref h])) : W p l e R s m args below meth c H locs cells slots Q (F0 m 86 ls [.ref q, .ref h]) := by
  refine lv_dup hx hb dX9_init_86 rfl ?_
  refine lv_iconst (v := 0) hx hb dX9_init_87 (by decide) ?_
  refine lv_iconst (v := (-1)) hx hb dX9_init_88 (by decide) ?_
  refine g_ist (k := 66) (i := 0) (L := 4) hx hb hK hW ha (by decide) hn rfl rfl rfl (by decide) (by decide) dX9_init_89 (fun H locs hW => ?_)
  have hW : gW Z A 56 ads (m_fill 66 m9_L66 1 σ) s H locs := hW
  refine lv_dup hx hb dX9_init_90 rfl ?_
  refine lv_iconst (v := 1) hx hb dX9_init_91 (by decide) ?_
  refine lv_iconst (v := (-1)) hx hb dX9_init_92 (by decide) ?_
  refine g_ist (k := 66) (i := 1) (L := 4) hx hb hK hW ha (by decide) hn rfl rfl rfl (by decide) (by decide) dX9_init_93 (fun H locs hW => ?_)
  have hW : gW Z A 56 ads (m_fill 66 m9_L66 2 σ) s H locs := hW
  refine lv_dup hx hb dX9_init_94 rfl ?_
  refine lv_iconst (v := 2) hx hb dX9_init_95 (by decide) ?_
  refine lv_iconst (v := (-1)) hx hb dX9_init_96 (by decide) ?_
  refine g_ist (k := 66) (i := 2) (L := 4) hx hb hK hW ha (by decide) hn rfl rfl rfl (by decide) (by decide) dX9_init_97 (fun H locs hW => ?_)
  have hW : gW Z A 56 ads (m_fill 66 m9_L66 3 σ) s H locs := hW
  refine lv_dup hx hb dX9_init_98 rfl ?_
  refine lv_iconst (v := 3) hx hb dX9_init_99 (by decide) ?_
  refine lv_iconst (v := (-1)) hx hb dX9_init_100 (by decide) ?_
  refine g_ist (k := 66) (i := 3) (L := 4) hx hb hK hW ha (by decide) hn rfl rfl rfl (by decide) (by decide) dX9_init_101 (fun H locs hW => ?_)
  have hW : gW Z A 56 ads (m_fill 66 m9_L66 4 σ) s H locs := hW
  exact kk H locs hW
def m9_L69 : List Int32 := [102, 105, 114, 115, 116, 32, 97, 32, 45, 32, 105, 116, 101, 109, 32, 59, 32, 115, 101, 99, 111, 110, 100, 32, 98, 32, 43, 32, 49, 32, 59, 32, 115, 97, 121, 115, 32, 97, 32, 59]
set_option maxHeartbeats 2000000 in
set_option maxRecDepth 100000 in
theorem m9_f69 {p : Program} {l : Launch} {e : Env} {R : Room} {s : State} {m : MethodId} {args : Array Value} {below : List Frame} {meth : Method} {c : Code} {H : Heap} {locs : List Loc} {cells slots : Nat} {Q : State → Prop} {ls : Array Slot} {Z : ow_Z} {A : Nat → Prop} {ads : List Nat} {σ : ow_S} {q h : Nat} (hx : p.tables.exec = Jvm.exec) (hb : c.code = cX9_init) (hK : va_K Z.1 vwCl (ow_ty Z) s) (hW : gW Z A 56 ads σ s H locs) (ha : ow_ad (gz Z 56 ads) 69 = q) (hn : 69 < 56 + ads.length) (kk : ∀ (H : Heap) (locs : List Loc), gW Z A 56 ads (m_fill 69 m9_L69 40 σ) s H locs → W p l e R s m args below meth c H locs cells slots Q (F0 m 360 ls [.ref q, .ref h])) : W p l e R s m args below meth c H locs cells slots Q (F0 m 126 ls [.ref q, .ref h]) := by
  refine lv_dup hx hb dX9_init_126 rfl ?_
  refine lv_iconst (v := 0) hx hb dX9_init_127 (by decide) ?_
  refine lv_bipush (v := 102) hx hb dX9_init_128 (by decide) ?_
  refine g_ist (k := 69) (i := 0) (L := 40) hx hb hK hW ha (by decide) hn rfl rfl rfl (by decide) (by decide) dX9_init_130 (fun H locs hW => ?_)
  have hW : gW Z A 56 ads (m_fill 69 m9_L69 1 σ) s H locs := hW
  refine lv_dup hx hb dX9_init_131 rfl ?_
  refine lv_iconst (v := 1) hx hb dX9_init_132 (by decide) ?_
  refine lv_bipush (v := 105) hx hb dX9_init_133 (by decide) ?_
  refine g_ist (k := 69) (i := 1) (L := 40) hx hb hK hW ha (by decide) hn rfl rfl rfl (by decide) (by decide) dX9_init_135 (fun H locs hW => ?_)
  have hW : gW Z A 56 ads (m_fill 69 m9_L69 2 σ) s H locs := hW
  refine lv_dup hx hb dX9_init_136 rfl ?_
  refine lv_iconst (v := 2) hx hb dX9_init_137 (by decide) ?_
  refine lv_bipush (v := 114) hx hb dX9_init_138 (by decide) ?_
  refine g_ist (k := 69) (i := 2) (L := 40) hx hb hK hW ha (by decide) hn rfl rfl rfl (by decide) (by decide) dX9_init_140 (fun H locs hW => ?_)
  have hW : gW Z A 56 ads (m_fill 69 m9_L69 3 σ) s H locs := hW
  refine lv_dup hx hb dX9_init_141 rfl ?_
  refine lv_iconst (v := 3) hx hb dX9_init_142 (by decide) ?_
  refine lv_bipush (v := 115) hx hb dX9_init_143 (by decide) ?_
  refine g_ist (k := 69) (i := 3) (L := 40) hx hb hK hW ha (by decide) hn rfl rfl rfl (by decide) (by decide) dX9_init_145 (fun H locs hW => ?_)
  have hW : gW Z A 56 ads (m_fill 69 m9_L69 4 σ) s H locs := hW
  refine lv_dup hx hb dX9_init_146 rfl ?_
  refine lv_iconst (v := 4) hx hb dX9_init_147 (by decide) ?_
  refine lv_bipush (v := 116) hx hb dX9_init_148 (by decide) ?_
  refine g_ist (k := 69) (i := 4) (L := 40) hx hb hK hW ha (by decide) hn rfl rfl rfl (by decide) (by decide) dX9_init_150 (fun H locs hW => ?_)
  have hW : gW Z A 56 ads (m_fill 69 m9_L69 5 σ) s H locs := hW
  refine lv_dup hx hb dX9_init_151 rfl ?_
  refine lv_iconst (v := 5) hx hb dX9_init_152 (by decide) ?_
  refine lv_bipush (v := 32) hx hb dX9_init_153 (by decide) ?_
  refine g_ist (k := 69) (i := 5) (L := 40) hx hb hK hW ha (by decide) hn rfl rfl rfl (by decide) (by decide) dX9_init_155 (fun H locs hW => ?_)
  have hW : gW Z A 56 ads (m_fill 69 m9_L69 6 σ) s H locs := hW
  refine lv_dup hx hb dX9_init_156 rfl ?_
  refine lv_bipush (v := 6) hx hb dX9_init_157 (by decide) ?_
  refine lv_bipush (v := 97) hx hb dX9_init_159 (by decide) ?_
  refine g_ist (k := 69) (i := 6) (L := 40) hx hb hK hW ha (by decide) hn rfl rfl rfl (by decide) (by decide) dX9_init_161 (fun H locs hW => ?_)
  have hW : gW Z A 56 ads (m_fill 69 m9_L69 7 σ) s H locs := hW
  refine lv_dup hx hb dX9_init_162 rfl ?_
  refine lv_bipush (v := 7) hx hb dX9_init_163 (by decide) ?_
  refine lv_bipush (v := 32) hx hb dX9_init_165 (by decide) ?_
  refine g_ist (k := 69) (i := 7) (L := 40) hx hb hK hW ha (by decide) hn rfl rfl rfl (by decide) (by decide) dX9_init_167 (fun H locs hW => ?_)
  have hW : gW Z A 56 ads (m_fill 69 m9_L69 8 σ) s H locs := hW
  refine lv_dup hx hb dX9_init_168 rfl ?_
  refine lv_bipush (v := 8) hx hb dX9_init_169 (by decide) ?_
  refine lv_bipush (v := 45) hx hb dX9_init_171 (by decide) ?_
  refine g_ist (k := 69) (i := 8) (L := 40) hx hb hK hW ha (by decide) hn rfl rfl rfl (by decide) (by decide) dX9_init_173 (fun H locs hW => ?_)
  have hW : gW Z A 56 ads (m_fill 69 m9_L69 9 σ) s H locs := hW
  refine lv_dup hx hb dX9_init_174 rfl ?_
  refine lv_bipush (v := 9) hx hb dX9_init_175 (by decide) ?_
  refine lv_bipush (v := 32) hx hb dX9_init_177 (by decide) ?_
  refine g_ist (k := 69) (i := 9) (L := 40) hx hb hK hW ha (by decide) hn rfl rfl rfl (by decide) (by decide) dX9_init_179 (fun H locs hW => ?_)
  have hW : gW Z A 56 ads (m_fill 69 m9_L69 10 σ) s H locs := hW
  refine lv_dup hx hb dX9_init_180 rfl ?_
  refine lv_bipush (v := 10) hx hb dX9_init_181 (by decide) ?_
  refine lv_bipush (v := 105) hx hb dX9_init_183 (by decide) ?_
  refine g_ist (k := 69) (i := 10) (L := 40) hx hb hK hW ha (by decide) hn rfl rfl rfl (by decide) (by decide) dX9_init_185 (fun H locs hW => ?_)
  have hW : gW Z A 56 ads (m_fill 69 m9_L69 11 σ) s H locs := hW
  refine lv_dup hx hb dX9_init_186 rfl ?_
  refine lv_bipush (v := 11) hx hb dX9_init_187 (by decide) ?_
  refine lv_bipush (v := 116) hx hb dX9_init_189 (by decide) ?_
  refine g_ist (k := 69) (i := 11) (L := 40) hx hb hK hW ha (by decide) hn rfl rfl rfl (by decide) (by decide) dX9_init_191 (fun H locs hW => ?_)
  have hW : gW Z A 56 ads (m_fill 69 m9_L69 12 σ) s H locs := hW
  refine lv_dup hx hb dX9_init_192 rfl ?_
  refine lv_bipush (v := 12) hx hb dX9_init_193 (by decide) ?_
  refine lv_bipush (v := 101) hx hb dX9_init_195 (by decide) ?_
  refine g_ist (k := 69) (i := 12) (L := 40) hx hb hK hW ha (by decide) hn rfl rfl rfl (by decide) (by decide) dX9_init_197 (fun H locs hW => ?_)
  have hW : gW Z A 56 ads (m_fill 69 m9_L69 13 σ) s H locs := hW
  refine lv_dup hx hb dX9_init_198 rfl ?_
  refine lv_bipush (v := 13) hx hb dX9_init_199 (by decide) ?_
  refine lv_bipush (v := 109) hx hb dX9_init_201 (by decide) ?_
  refine g_ist (k := 69) (i := 13) (L := 40) hx hb hK hW ha (by decide) hn rfl rfl rfl (by decide) (by decide) dX9_init_203 (fun H locs hW => ?_)
  have hW : gW Z A 56 ads (m_fill 69 m9_L69 14 σ) s H locs := hW
  refine lv_dup hx hb dX9_init_204 rfl ?_
  refine lv_bipush (v := 14) hx hb dX9_init_205 (by decide) ?_
  refine lv_bipush (v := 32) hx hb dX9_init_207 (by decide) ?_
  refine g_ist (k := 69) (i := 14) (L := 40) hx hb hK hW ha (by decide) hn rfl rfl rfl (by decide) (by decide) dX9_init_209 (fun H locs hW => ?_)
  have hW : gW Z A 56 ads (m_fill 69 m9_L69 15 σ) s H locs := hW
  refine lv_dup hx hb dX9_init_210 rfl ?_
  refine lv_bipush (v := 15) hx hb dX9_init_211 (by decide) ?_
  refine lv_bipush (v := 59) hx hb dX9_init_213 (by decide) ?_
  refine g_ist (k := 69) (i := 15) (L := 40) hx hb hK hW ha (by decide) hn rfl rfl rfl (by decide) (by decide) dX9_init_215 (fun H locs hW => ?_)
  have hW : gW Z A 56 ads (m_fill 69 m9_L69 16 σ) s H locs := hW
  refine lv_dup hx hb dX9_init_216 rfl ?_
  refine lv_bipush (v := 16) hx hb dX9_init_217 (by decide) ?_
  refine lv_bipush (v := 32) hx hb dX9_init_219 (by decide) ?_
  refine g_ist (k := 69) (i := 16) (L := 40) hx hb hK hW ha (by decide) hn rfl rfl rfl (by decide) (by decide) dX9_init_221 (fun H locs hW => ?_)
  have hW : gW Z A 56 ads (m_fill 69 m9_L69 17 σ) s H locs := hW
  refine lv_dup hx hb dX9_init_222 rfl ?_
  refine lv_bipush (v := 17) hx hb dX9_init_223 (by decide) ?_
  refine lv_bipush (v := 115) hx hb dX9_init_225 (by decide) ?_
  refine g_ist (k := 69) (i := 17) (L := 40) hx hb hK hW ha (by decide) hn rfl rfl rfl (by decide) (by decide) dX9_init_227 (fun H locs hW => ?_)
  have hW : gW Z A 56 ads (m_fill 69 m9_L69 18 σ) s H locs := hW
  refine lv_dup hx hb dX9_init_228 rfl ?_
  refine lv_bipush (v := 18) hx hb dX9_init_229 (by decide) ?_
  refine lv_bipush (v := 101) hx hb dX9_init_231 (by decide) ?_
  refine g_ist (k := 69) (i := 18) (L := 40) hx hb hK hW ha (by decide) hn rfl rfl rfl (by decide) (by decide) dX9_init_233 (fun H locs hW => ?_)
  have hW : gW Z A 56 ads (m_fill 69 m9_L69 19 σ) s H locs := hW
  refine lv_dup hx hb dX9_init_234 rfl ?_
  refine lv_bipush (v := 19) hx hb dX9_init_235 (by decide) ?_
  refine lv_bipush (v := 99) hx hb dX9_init_237 (by decide) ?_
  refine g_ist (k := 69) (i := 19) (L := 40) hx hb hK hW ha (by decide) hn rfl rfl rfl (by decide) (by decide) dX9_init_239 (fun H locs hW => ?_)
  have hW : gW Z A 56 ads (m_fill 69 m9_L69 20 σ) s H locs := hW
  refine lv_dup hx hb dX9_init_240 rfl ?_
  refine lv_bipush (v := 20) hx hb dX9_init_241 (by decide) ?_
  refine lv_bipush (v := 111) hx hb dX9_init_243 (by decide) ?_
  refine g_ist (k := 69) (i := 20) (L := 40) hx hb hK hW ha (by decide) hn rfl rfl rfl (by decide) (by decide) dX9_init_245 (fun H locs hW => ?_)
  have hW : gW Z A 56 ads (m_fill 69 m9_L69 21 σ) s H locs := hW
  refine lv_dup hx hb dX9_init_246 rfl ?_
  refine lv_bipush (v := 21) hx hb dX9_init_247 (by decide) ?_
  refine lv_bipush (v := 110) hx hb dX9_init_249 (by decide) ?_
  refine g_ist (k := 69) (i := 21) (L := 40) hx hb hK hW ha (by decide) hn rfl rfl rfl (by decide) (by decide) dX9_init_251 (fun H locs hW => ?_)
  have hW : gW Z A 56 ads (m_fill 69 m9_L69 22 σ) s H locs := hW
  refine lv_dup hx hb dX9_init_252 rfl ?_
  refine lv_bipush (v := 22) hx hb dX9_init_253 (by decide) ?_
  refine lv_bipush (v := 100) hx hb dX9_init_255 (by decide) ?_
  refine g_ist (k := 69) (i := 22) (L := 40) hx hb hK hW ha (by decide) hn rfl rfl rfl (by decide) (by decide) dX9_init_257 (fun H locs hW => ?_)
  have hW : gW Z A 56 ads (m_fill 69 m9_L69 23 σ) s H locs := hW
  refine lv_dup hx hb dX9_init_258 rfl ?_
  refine lv_bipush (v := 23) hx hb dX9_init_259 (by decide) ?_
  refine lv_bipush (v := 32) hx hb dX9_init_261 (by decide) ?_
  refine g_ist (k := 69) (i := 23) (L := 40) hx hb hK hW ha (by decide) hn rfl rfl rfl (by decide) (by decide) dX9_init_263 (fun H locs hW => ?_)
  have hW : gW Z A 56 ads (m_fill 69 m9_L69 24 σ) s H locs := hW
  refine lv_dup hx hb dX9_init_264 rfl ?_
  refine lv_bipush (v := 24) hx hb dX9_init_265 (by decide) ?_
  refine lv_bipush (v := 98) hx hb dX9_init_267 (by decide) ?_
  refine g_ist (k := 69) (i := 24) (L := 40) hx hb hK hW ha (by decide) hn rfl rfl rfl (by decide) (by decide) dX9_init_269 (fun H locs hW => ?_)
  have hW : gW Z A 56 ads (m_fill 69 m9_L69 25 σ) s H locs := hW
  refine lv_dup hx hb dX9_init_270 rfl ?_
  refine lv_bipush (v := 25) hx hb dX9_init_271 (by decide) ?_
  refine lv_bipush (v := 32) hx hb dX9_init_273 (by decide) ?_
  refine g_ist (k := 69) (i := 25) (L := 40) hx hb hK hW ha (by decide) hn rfl rfl rfl (by decide) (by decide) dX9_init_275 (fun H locs hW => ?_)
  have hW : gW Z A 56 ads (m_fill 69 m9_L69 26 σ) s H locs := hW
  refine lv_dup hx hb dX9_init_276 rfl ?_
  refine lv_bipush (v := 26) hx hb dX9_init_277 (by decide) ?_
  refine lv_bipush (v := 43) hx hb dX9_init_279 (by decide) ?_
  refine g_ist (k := 69) (i := 26) (L := 40) hx hb hK hW ha (by decide) hn rfl rfl rfl (by decide) (by decide) dX9_init_281 (fun H locs hW => ?_)
  have hW : gW Z A 56 ads (m_fill 69 m9_L69 27 σ) s H locs := hW
  refine lv_dup hx hb dX9_init_282 rfl ?_
  refine lv_bipush (v := 27) hx hb dX9_init_283 (by decide) ?_
  refine lv_bipush (v := 32) hx hb dX9_init_285 (by decide) ?_
  refine g_ist (k := 69) (i := 27) (L := 40) hx hb hK hW ha (by decide) hn rfl rfl rfl (by decide) (by decide) dX9_init_287 (fun H locs hW => ?_)
  have hW : gW Z A 56 ads (m_fill 69 m9_L69 28 σ) s H locs := hW
  refine lv_dup hx hb dX9_init_288 rfl ?_
  refine lv_bipush (v := 28) hx hb dX9_init_289 (by decide) ?_
  refine lv_bipush (v := 49) hx hb dX9_init_291 (by decide) ?_
  refine g_ist (k := 69) (i := 28) (L := 40) hx hb hK hW ha (by decide) hn rfl rfl rfl (by decide) (by decide) dX9_init_293 (fun H locs hW => ?_)
  have hW : gW Z A 56 ads (m_fill 69 m9_L69 29 σ) s H locs := hW
  refine lv_dup hx hb dX9_init_294 rfl ?_
  refine lv_bipush (v := 29) hx hb dX9_init_295 (by decide) ?_
  refine lv_bipush (v := 32) hx hb dX9_init_297 (by decide) ?_
  refine g_ist (k := 69) (i := 29) (L := 40) hx hb hK hW ha (by decide) hn rfl rfl rfl (by decide) (by decide) dX9_init_299 (fun H locs hW => ?_)
  have hW : gW Z A 56 ads (m_fill 69 m9_L69 30 σ) s H locs := hW
  refine lv_dup hx hb dX9_init_300 rfl ?_
  refine lv_bipush (v := 30) hx hb dX9_init_301 (by decide) ?_
  refine lv_bipush (v := 59) hx hb dX9_init_303 (by decide) ?_
  refine g_ist (k := 69) (i := 30) (L := 40) hx hb hK hW ha (by decide) hn rfl rfl rfl (by decide) (by decide) dX9_init_305 (fun H locs hW => ?_)
  have hW : gW Z A 56 ads (m_fill 69 m9_L69 31 σ) s H locs := hW
  refine lv_dup hx hb dX9_init_306 rfl ?_
  refine lv_bipush (v := 31) hx hb dX9_init_307 (by decide) ?_
  refine lv_bipush (v := 32) hx hb dX9_init_309 (by decide) ?_
  refine g_ist (k := 69) (i := 31) (L := 40) hx hb hK hW ha (by decide) hn rfl rfl rfl (by decide) (by decide) dX9_init_311 (fun H locs hW => ?_)
  have hW : gW Z A 56 ads (m_fill 69 m9_L69 32 σ) s H locs := hW
  refine lv_dup hx hb dX9_init_312 rfl ?_
  refine lv_bipush (v := 32) hx hb dX9_init_313 (by decide) ?_
  refine lv_bipush (v := 115) hx hb dX9_init_315 (by decide) ?_
  refine g_ist (k := 69) (i := 32) (L := 40) hx hb hK hW ha (by decide) hn rfl rfl rfl (by decide) (by decide) dX9_init_317 (fun H locs hW => ?_)
  have hW : gW Z A 56 ads (m_fill 69 m9_L69 33 σ) s H locs := hW
  refine lv_dup hx hb dX9_init_318 rfl ?_
  refine lv_bipush (v := 33) hx hb dX9_init_319 (by decide) ?_
  refine lv_bipush (v := 97) hx hb dX9_init_321 (by decide) ?_
  refine g_ist (k := 69) (i := 33) (L := 40) hx hb hK hW ha (by decide) hn rfl rfl rfl (by decide) (by decide) dX9_init_323 (fun H locs hW => ?_)
  have hW : gW Z A 56 ads (m_fill 69 m9_L69 34 σ) s H locs := hW
  refine lv_dup hx hb dX9_init_324 rfl ?_
  refine lv_bipush (v := 34) hx hb dX9_init_325 (by decide) ?_
  refine lv_bipush (v := 121) hx hb dX9_init_327 (by decide) ?_
  refine g_ist (k := 69) (i := 34) (L := 40) hx hb hK hW ha (by decide) hn rfl rfl rfl (by decide) (by decide) dX9_init_329 (fun H locs hW => ?_)
  have hW : gW Z A 56 ads (m_fill 69 m9_L69 35 σ) s H locs := hW
  refine lv_dup hx hb dX9_init_330 rfl ?_
  refine lv_bipush (v := 35) hx hb dX9_init_331 (by decide) ?_
  refine lv_bipush (v := 115) hx hb dX9_init_333 (by decide) ?_
  refine g_ist (k := 69) (i := 35) (L := 40) hx hb hK hW ha (by decide) hn rfl rfl rfl (by decide) (by decide) dX9_init_335 (fun H locs hW => ?_)
  have hW : gW Z A 56 ads (m_fill 69 m9_L69 36 σ) s H locs := hW
  refine lv_dup hx hb dX9_init_336 rfl ?_
  refine lv_bipush (v := 36) hx hb dX9_init_337 (by decide) ?_
  refine lv_bipush (v := 32) hx hb dX9_init_339 (by decide) ?_
  refine g_ist (k := 69) (i := 36) (L := 40) hx hb hK hW ha (by decide) hn rfl rfl rfl (by decide) (by decide) dX9_init_341 (fun H locs hW => ?_)
  have hW : gW Z A 56 ads (m_fill 69 m9_L69 37 σ) s H locs := hW
  refine lv_dup hx hb dX9_init_342 rfl ?_
  refine lv_bipush (v := 37) hx hb dX9_init_343 (by decide) ?_
  refine lv_bipush (v := 97) hx hb dX9_init_345 (by decide) ?_
  refine g_ist (k := 69) (i := 37) (L := 40) hx hb hK hW ha (by decide) hn rfl rfl rfl (by decide) (by decide) dX9_init_347 (fun H locs hW => ?_)
  have hW : gW Z A 56 ads (m_fill 69 m9_L69 38 σ) s H locs := hW
  refine lv_dup hx hb dX9_init_348 rfl ?_
  refine lv_bipush (v := 38) hx hb dX9_init_349 (by decide) ?_
  refine lv_bipush (v := 32) hx hb dX9_init_351 (by decide) ?_
  refine g_ist (k := 69) (i := 38) (L := 40) hx hb hK hW ha (by decide) hn rfl rfl rfl (by decide) (by decide) dX9_init_353 (fun H locs hW => ?_)
  have hW : gW Z A 56 ads (m_fill 69 m9_L69 39 σ) s H locs := hW
  refine lv_dup hx hb dX9_init_354 rfl ?_
  refine lv_bipush (v := 39) hx hb dX9_init_355 (by decide) ?_
  refine lv_bipush (v := 59) hx hb dX9_init_357 (by decide) ?_
  refine g_ist (k := 69) (i := 39) (L := 40) hx hb hK hW ha (by decide) hn rfl rfl rfl (by decide) (by decide) dX9_init_359 (fun H locs hW => ?_)
  have hW : gW Z A 56 ads (m_fill 69 m9_L69 40 σ) s H locs := hW
  exact kk H locs hW
def m9_L70 : List Int32 := [102, 105, 114, 115, 116, 32, 32, 32, 115, 101, 99, 111, 110, 100, 32, 32, 115, 97, 121, 115, 32, 32, 32, 32, 97, 32, 32, 32, 32, 32, 32, 32, 98, 32, 32, 32, 32, 32, 32, 32, 105, 116, 101, 109, 32, 32, 32, 32, 112, 108, 97, 99, 101, 32, 32, 32, 110, 32, 32, 32, 32, 32, 32, 32, 109, 111, 114, 101, 32, 32, 32, 32, 111, 114, 32, 32, 32, 32, 32, 32, 97, 110, 100, 32, 32, 32, 32, 32, 110, 111, 116, 32, 32, 32, 32, 32]
set_option maxHeartbeats 2000000 in
set_option maxRecDepth 100000 in
theorem m9_f70 {p : Program} {l : Launch} {e : Env} {R : Room} {s : State} {m : MethodId} {args : Array Value} {below : List Frame} {meth : Method} {c : Code} {H : Heap} {locs : List Loc} {cells slots : Nat} {Q : State → Prop} {ls : Array Slot} {Z : ow_Z} {A : Nat → Prop} {ads : List Nat} {σ : ow_S} {q h : Nat} (hx : p.tables.exec = Jvm.exec) (hb : c.code = cX9_init) (hK : va_K Z.1 vwCl (ow_ty Z) s) (hW : gW Z A 56 ads σ s H locs) (ha : ow_ad (gz Z 56 ads) 70 = q) (hn : 70 < 56 + ads.length) (kk : ∀ (H : Heap) (locs : List Loc), gW Z A 56 ads (m_fill 70 m9_L70 96 σ) s H locs → W p l e R s m args below meth c H locs cells slots Q (F0 m 938 ls [.ref q, .ref h])) : W p l e R s m args below meth c H locs cells slots Q (F0 m 368 ls [.ref q, .ref h]) := by
  refine lv_dup hx hb dX9_init_368 rfl ?_
  refine lv_iconst (v := 0) hx hb dX9_init_369 (by decide) ?_
  refine lv_bipush (v := 102) hx hb dX9_init_370 (by decide) ?_
  refine g_ist (k := 70) (i := 0) (L := 96) hx hb hK hW ha (by decide) hn rfl rfl rfl (by decide) (by decide) dX9_init_372 (fun H locs hW => ?_)
  have hW : gW Z A 56 ads (m_fill 70 m9_L70 1 σ) s H locs := hW
  refine lv_dup hx hb dX9_init_373 rfl ?_
  refine lv_iconst (v := 1) hx hb dX9_init_374 (by decide) ?_
  refine lv_bipush (v := 105) hx hb dX9_init_375 (by decide) ?_
  refine g_ist (k := 70) (i := 1) (L := 96) hx hb hK hW ha (by decide) hn rfl rfl rfl (by decide) (by decide) dX9_init_377 (fun H locs hW => ?_)
  have hW : gW Z A 56 ads (m_fill 70 m9_L70 2 σ) s H locs := hW
  refine lv_dup hx hb dX9_init_378 rfl ?_
  refine lv_iconst (v := 2) hx hb dX9_init_379 (by decide) ?_
  refine lv_bipush (v := 114) hx hb dX9_init_380 (by decide) ?_
  refine g_ist (k := 70) (i := 2) (L := 96) hx hb hK hW ha (by decide) hn rfl rfl rfl (by decide) (by decide) dX9_init_382 (fun H locs hW => ?_)
  have hW : gW Z A 56 ads (m_fill 70 m9_L70 3 σ) s H locs := hW
  refine lv_dup hx hb dX9_init_383 rfl ?_
  refine lv_iconst (v := 3) hx hb dX9_init_384 (by decide) ?_
  refine lv_bipush (v := 115) hx hb dX9_init_385 (by decide) ?_
  refine g_ist (k := 70) (i := 3) (L := 96) hx hb hK hW ha (by decide) hn rfl rfl rfl (by decide) (by decide) dX9_init_387 (fun H locs hW => ?_)
  have hW : gW Z A 56 ads (m_fill 70 m9_L70 4 σ) s H locs := hW
  refine lv_dup hx hb dX9_init_388 rfl ?_
  refine lv_iconst (v := 4) hx hb dX9_init_389 (by decide) ?_
  refine lv_bipush (v := 116) hx hb dX9_init_390 (by decide) ?_
  refine g_ist (k := 70) (i := 4) (L := 96) hx hb hK hW ha (by decide) hn rfl rfl rfl (by decide) (by decide) dX9_init_392 (fun H locs hW => ?_)
  have hW : gW Z A 56 ads (m_fill 70 m9_L70 5 σ) s H locs := hW
  refine lv_dup hx hb dX9_init_393 rfl ?_
  refine lv_iconst (v := 5) hx hb dX9_init_394 (by decide) ?_
  refine lv_bipush (v := 32) hx hb dX9_init_395 (by decide) ?_
  refine g_ist (k := 70) (i := 5) (L := 96) hx hb hK hW ha (by decide) hn rfl rfl rfl (by decide) (by decide) dX9_init_397 (fun H locs hW => ?_)
  have hW : gW Z A 56 ads (m_fill 70 m9_L70 6 σ) s H locs := hW
  refine lv_dup hx hb dX9_init_398 rfl ?_
  refine lv_bipush (v := 6) hx hb dX9_init_399 (by decide) ?_
  refine lv_bipush (v := 32) hx hb dX9_init_401 (by decide) ?_
  refine g_ist (k := 70) (i := 6) (L := 96) hx hb hK hW ha (by decide) hn rfl rfl rfl (by decide) (by decide) dX9_init_403 (fun H locs hW => ?_)
  have hW : gW Z A 56 ads (m_fill 70 m9_L70 7 σ) s H locs := hW
  refine lv_dup hx hb dX9_init_404 rfl ?_
  refine lv_bipush (v := 7) hx hb dX9_init_405 (by decide) ?_
  refine lv_bipush (v := 32) hx hb dX9_init_407 (by decide) ?_
  refine g_ist (k := 70) (i := 7) (L := 96) hx hb hK hW ha (by decide) hn rfl rfl rfl (by decide) (by decide) dX9_init_409 (fun H locs hW => ?_)
  have hW : gW Z A 56 ads (m_fill 70 m9_L70 8 σ) s H locs := hW
  refine lv_dup hx hb dX9_init_410 rfl ?_
  refine lv_bipush (v := 8) hx hb dX9_init_411 (by decide) ?_
  refine lv_bipush (v := 115) hx hb dX9_init_413 (by decide) ?_
  refine g_ist (k := 70) (i := 8) (L := 96) hx hb hK hW ha (by decide) hn rfl rfl rfl (by decide) (by decide) dX9_init_415 (fun H locs hW => ?_)
  have hW : gW Z A 56 ads (m_fill 70 m9_L70 9 σ) s H locs := hW
  refine lv_dup hx hb dX9_init_416 rfl ?_
  refine lv_bipush (v := 9) hx hb dX9_init_417 (by decide) ?_
  refine lv_bipush (v := 101) hx hb dX9_init_419 (by decide) ?_
  refine g_ist (k := 70) (i := 9) (L := 96) hx hb hK hW ha (by decide) hn rfl rfl rfl (by decide) (by decide) dX9_init_421 (fun H locs hW => ?_)
  have hW : gW Z A 56 ads (m_fill 70 m9_L70 10 σ) s H locs := hW
  refine lv_dup hx hb dX9_init_422 rfl ?_
  refine lv_bipush (v := 10) hx hb dX9_init_423 (by decide) ?_
  refine lv_bipush (v := 99) hx hb dX9_init_425 (by decide) ?_
  refine g_ist (k := 70) (i := 10) (L := 96) hx hb hK hW ha (by decide) hn rfl rfl rfl (by decide) (by decide) dX9_init_427 (fun H locs hW => ?_)
  have hW : gW Z A 56 ads (m_fill 70 m9_L70 11 σ) s H locs := hW
  refine lv_dup hx hb dX9_init_428 rfl ?_
  refine lv_bipush (v := 11) hx hb dX9_init_429 (by decide) ?_
  refine lv_bipush (v := 111) hx hb dX9_init_431 (by decide) ?_
  refine g_ist (k := 70) (i := 11) (L := 96) hx hb hK hW ha (by decide) hn rfl rfl rfl (by decide) (by decide) dX9_init_433 (fun H locs hW => ?_)
  have hW : gW Z A 56 ads (m_fill 70 m9_L70 12 σ) s H locs := hW
  refine lv_dup hx hb dX9_init_434 rfl ?_
  refine lv_bipush (v := 12) hx hb dX9_init_435 (by decide) ?_
  refine lv_bipush (v := 110) hx hb dX9_init_437 (by decide) ?_
  refine g_ist (k := 70) (i := 12) (L := 96) hx hb hK hW ha (by decide) hn rfl rfl rfl (by decide) (by decide) dX9_init_439 (fun H locs hW => ?_)
  have hW : gW Z A 56 ads (m_fill 70 m9_L70 13 σ) s H locs := hW
  refine lv_dup hx hb dX9_init_440 rfl ?_
  refine lv_bipush (v := 13) hx hb dX9_init_441 (by decide) ?_
  refine lv_bipush (v := 100) hx hb dX9_init_443 (by decide) ?_
  refine g_ist (k := 70) (i := 13) (L := 96) hx hb hK hW ha (by decide) hn rfl rfl rfl (by decide) (by decide) dX9_init_445 (fun H locs hW => ?_)
  have hW : gW Z A 56 ads (m_fill 70 m9_L70 14 σ) s H locs := hW
  refine lv_dup hx hb dX9_init_446 rfl ?_
  refine lv_bipush (v := 14) hx hb dX9_init_447 (by decide) ?_
  refine lv_bipush (v := 32) hx hb dX9_init_449 (by decide) ?_
  refine g_ist (k := 70) (i := 14) (L := 96) hx hb hK hW ha (by decide) hn rfl rfl rfl (by decide) (by decide) dX9_init_451 (fun H locs hW => ?_)
  have hW : gW Z A 56 ads (m_fill 70 m9_L70 15 σ) s H locs := hW
  refine lv_dup hx hb dX9_init_452 rfl ?_
  refine lv_bipush (v := 15) hx hb dX9_init_453 (by decide) ?_
  refine lv_bipush (v := 32) hx hb dX9_init_455 (by decide) ?_
  refine g_ist (k := 70) (i := 15) (L := 96) hx hb hK hW ha (by decide) hn rfl rfl rfl (by decide) (by decide) dX9_init_457 (fun H locs hW => ?_)
  have hW : gW Z A 56 ads (m_fill 70 m9_L70 16 σ) s H locs := hW
  refine lv_dup hx hb dX9_init_458 rfl ?_
  refine lv_bipush (v := 16) hx hb dX9_init_459 (by decide) ?_
  refine lv_bipush (v := 115) hx hb dX9_init_461 (by decide) ?_
  refine g_ist (k := 70) (i := 16) (L := 96) hx hb hK hW ha (by decide) hn rfl rfl rfl (by decide) (by decide) dX9_init_463 (fun H locs hW => ?_)
  have hW : gW Z A 56 ads (m_fill 70 m9_L70 17 σ) s H locs := hW
  refine lv_dup hx hb dX9_init_464 rfl ?_
  refine lv_bipush (v := 17) hx hb dX9_init_465 (by decide) ?_
  refine lv_bipush (v := 97) hx hb dX9_init_467 (by decide) ?_
  refine g_ist (k := 70) (i := 17) (L := 96) hx hb hK hW ha (by decide) hn rfl rfl rfl (by decide) (by decide) dX9_init_469 (fun H locs hW => ?_)
  have hW : gW Z A 56 ads (m_fill 70 m9_L70 18 σ) s H locs := hW
  refine lv_dup hx hb dX9_init_470 rfl ?_
  refine lv_bipush (v := 18) hx hb dX9_init_471 (by decide) ?_
  refine lv_bipush (v := 121) hx hb dX9_init_473 (by decide) ?_
  refine g_ist (k := 70) (i := 18) (L := 96) hx hb hK hW ha (by decide) hn rfl rfl rfl (by decide) (by decide) dX9_init_475 (fun H locs hW => ?_)
  have hW : gW Z A 56 ads (m_fill 70 m9_L70 19 σ) s H locs := hW
  refine lv_dup hx hb dX9_init_476 rfl ?_
  refine lv_bipush (v := 19) hx hb dX9_init_477 (by decide) ?_
  refine lv_bipush (v := 115) hx hb dX9_init_479 (by decide) ?_
  refine g_ist (k := 70) (i := 19) (L := 96) hx hb hK hW ha (by decide) hn rfl rfl rfl (by decide) (by decide) dX9_init_481 (fun H locs hW => ?_)
  have hW : gW Z A 56 ads (m_fill 70 m9_L70 20 σ) s H locs := hW
  refine lv_dup hx hb dX9_init_482 rfl ?_
  refine lv_bipush (v := 20) hx hb dX9_init_483 (by decide) ?_
  refine lv_bipush (v := 32) hx hb dX9_init_485 (by decide) ?_
  refine g_ist (k := 70) (i := 20) (L := 96) hx hb hK hW ha (by decide) hn rfl rfl rfl (by decide) (by decide) dX9_init_487 (fun H locs hW => ?_)
  have hW : gW Z A 56 ads (m_fill 70 m9_L70 21 σ) s H locs := hW
  refine lv_dup hx hb dX9_init_488 rfl ?_
  refine lv_bipush (v := 21) hx hb dX9_init_489 (by decide) ?_
  refine lv_bipush (v := 32) hx hb dX9_init_491 (by decide) ?_
  refine g_ist (k := 70) (i := 21) (L := 96) hx hb hK hW ha (by decide) hn rfl rfl rfl (by decide) (by decide) dX9_init_493 (fun H locs hW => ?_)
  have hW : gW Z A 56 ads (m_fill 70 m9_L70 22 σ) s H locs := hW
  refine lv_dup hx hb dX9_init_494 rfl ?_
  refine lv_bipush (v := 22) hx hb dX9_init_495 (by decide) ?_
  refine lv_bipush (v := 32) hx hb dX9_init_497 (by decide) ?_
  refine g_ist (k := 70) (i := 22) (L := 96) hx hb hK hW ha (by decide) hn rfl rfl rfl (by decide) (by decide) dX9_init_499 (fun H locs hW => ?_)
  have hW : gW Z A 56 ads (m_fill 70 m9_L70 23 σ) s H locs := hW
  refine lv_dup hx hb dX9_init_500 rfl ?_
  refine lv_bipush (v := 23) hx hb dX9_init_501 (by decide) ?_
  refine lv_bipush (v := 32) hx hb dX9_init_503 (by decide) ?_
  refine g_ist (k := 70) (i := 23) (L := 96) hx hb hK hW ha (by decide) hn rfl rfl rfl (by decide) (by decide) dX9_init_505 (fun H locs hW => ?_)
  have hW : gW Z A 56 ads (m_fill 70 m9_L70 24 σ) s H locs := hW
  refine lv_dup hx hb dX9_init_506 rfl ?_
  refine lv_bipush (v := 24) hx hb dX9_init_507 (by decide) ?_
  refine lv_bipush (v := 97) hx hb dX9_init_509 (by decide) ?_
  refine g_ist (k := 70) (i := 24) (L := 96) hx hb hK hW ha (by decide) hn rfl rfl rfl (by decide) (by decide) dX9_init_511 (fun H locs hW => ?_)
  have hW : gW Z A 56 ads (m_fill 70 m9_L70 25 σ) s H locs := hW
  refine lv_dup hx hb dX9_init_512 rfl ?_
  refine lv_bipush (v := 25) hx hb dX9_init_513 (by decide) ?_
  refine lv_bipush (v := 32) hx hb dX9_init_515 (by decide) ?_
  refine g_ist (k := 70) (i := 25) (L := 96) hx hb hK hW ha (by decide) hn rfl rfl rfl (by decide) (by decide) dX9_init_517 (fun H locs hW => ?_)
  have hW : gW Z A 56 ads (m_fill 70 m9_L70 26 σ) s H locs := hW
  refine lv_dup hx hb dX9_init_518 rfl ?_
  refine lv_bipush (v := 26) hx hb dX9_init_519 (by decide) ?_
  refine lv_bipush (v := 32) hx hb dX9_init_521 (by decide) ?_
  refine g_ist (k := 70) (i := 26) (L := 96) hx hb hK hW ha (by decide) hn rfl rfl rfl (by decide) (by decide) dX9_init_523 (fun H locs hW => ?_)
  have hW : gW Z A 56 ads (m_fill 70 m9_L70 27 σ) s H locs := hW
  refine lv_dup hx hb dX9_init_524 rfl ?_
  refine lv_bipush (v := 27) hx hb dX9_init_525 (by decide) ?_
  refine lv_bipush (v := 32) hx hb dX9_init_527 (by decide) ?_
  refine g_ist (k := 70) (i := 27) (L := 96) hx hb hK hW ha (by decide) hn rfl rfl rfl (by decide) (by decide) dX9_init_529 (fun H locs hW => ?_)
  have hW : gW Z A 56 ads (m_fill 70 m9_L70 28 σ) s H locs := hW
  refine lv_dup hx hb dX9_init_530 rfl ?_
  refine lv_bipush (v := 28) hx hb dX9_init_531 (by decide) ?_
  refine lv_bipush (v := 32) hx hb dX9_init_533 (by decide) ?_
  refine g_ist (k := 70) (i := 28) (L := 96) hx hb hK hW ha (by decide) hn rfl rfl rfl (by decide) (by decide) dX9_init_535 (fun H locs hW => ?_)
  have hW : gW Z A 56 ads (m_fill 70 m9_L70 29 σ) s H locs := hW
  refine lv_dup hx hb dX9_init_536 rfl ?_
  refine lv_bipush (v := 29) hx hb dX9_init_537 (by decide) ?_
  refine lv_bipush (v := 32) hx hb dX9_init_539 (by decide) ?_
  refine g_ist (k := 70) (i := 29) (L := 96) hx hb hK hW ha (by decide) hn rfl rfl rfl (by decide) (by decide) dX9_init_541 (fun H locs hW => ?_)
  have hW : gW Z A 56 ads (m_fill 70 m9_L70 30 σ) s H locs := hW
  refine lv_dup hx hb dX9_init_542 rfl ?_
  refine lv_bipush (v := 30) hx hb dX9_init_543 (by decide) ?_
  refine lv_bipush (v := 32) hx hb dX9_init_545 (by decide) ?_
  refine g_ist (k := 70) (i := 30) (L := 96) hx hb hK hW ha (by decide) hn rfl rfl rfl (by decide) (by decide) dX9_init_547 (fun H locs hW => ?_)
  have hW : gW Z A 56 ads (m_fill 70 m9_L70 31 σ) s H locs := hW
  refine lv_dup hx hb dX9_init_548 rfl ?_
  refine lv_bipush (v := 31) hx hb dX9_init_549 (by decide) ?_
  refine lv_bipush (v := 32) hx hb dX9_init_551 (by decide) ?_
  refine g_ist (k := 70) (i := 31) (L := 96) hx hb hK hW ha (by decide) hn rfl rfl rfl (by decide) (by decide) dX9_init_553 (fun H locs hW => ?_)
  have hW : gW Z A 56 ads (m_fill 70 m9_L70 32 σ) s H locs := hW
  refine lv_dup hx hb dX9_init_554 rfl ?_
  refine lv_bipush (v := 32) hx hb dX9_init_555 (by decide) ?_
  refine lv_bipush (v := 98) hx hb dX9_init_557 (by decide) ?_
  refine g_ist (k := 70) (i := 32) (L := 96) hx hb hK hW ha (by decide) hn rfl rfl rfl (by decide) (by decide) dX9_init_559 (fun H locs hW => ?_)
  have hW : gW Z A 56 ads (m_fill 70 m9_L70 33 σ) s H locs := hW
  refine lv_dup hx hb dX9_init_560 rfl ?_
  refine lv_bipush (v := 33) hx hb dX9_init_561 (by decide) ?_
  refine lv_bipush (v := 32) hx hb dX9_init_563 (by decide) ?_
  refine g_ist (k := 70) (i := 33) (L := 96) hx hb hK hW ha (by decide) hn rfl rfl rfl (by decide) (by decide) dX9_init_565 (fun H locs hW => ?_)
  have hW : gW Z A 56 ads (m_fill 70 m9_L70 34 σ) s H locs := hW
  refine lv_dup hx hb dX9_init_566 rfl ?_
  refine lv_bipush (v := 34) hx hb dX9_init_567 (by decide) ?_
  refine lv_bipush (v := 32) hx hb dX9_init_569 (by decide) ?_
  refine g_ist (k := 70) (i := 34) (L := 96) hx hb hK hW ha (by decide) hn rfl rfl rfl (by decide) (by decide) dX9_init_571 (fun H locs hW => ?_)
  have hW : gW Z A 56 ads (m_fill 70 m9_L70 35 σ) s H locs := hW
  refine lv_dup hx hb dX9_init_572 rfl ?_
  refine lv_bipush (v := 35) hx hb dX9_init_573 (by decide) ?_
  refine lv_bipush (v := 32) hx hb dX9_init_575 (by decide) ?_
  refine g_ist (k := 70) (i := 35) (L := 96) hx hb hK hW ha (by decide) hn rfl rfl rfl (by decide) (by decide) dX9_init_577 (fun H locs hW => ?_)
  have hW : gW Z A 56 ads (m_fill 70 m9_L70 36 σ) s H locs := hW
  refine lv_dup hx hb dX9_init_578 rfl ?_
  refine lv_bipush (v := 36) hx hb dX9_init_579 (by decide) ?_
  refine lv_bipush (v := 32) hx hb dX9_init_581 (by decide) ?_
  refine g_ist (k := 70) (i := 36) (L := 96) hx hb hK hW ha (by decide) hn rfl rfl rfl (by decide) (by decide) dX9_init_583 (fun H locs hW => ?_)
  have hW : gW Z A 56 ads (m_fill 70 m9_L70 37 σ) s H locs := hW
  refine lv_dup hx hb dX9_init_584 rfl ?_
  refine lv_bipush (v := 37) hx hb dX9_init_585 (by decide) ?_
  refine lv_bipush (v := 32) hx hb dX9_init_587 (by decide) ?_
  refine g_ist (k := 70) (i := 37) (L := 96) hx hb hK hW ha (by decide) hn rfl rfl rfl (by decide) (by decide) dX9_init_589 (fun H locs hW => ?_)
  have hW : gW Z A 56 ads (m_fill 70 m9_L70 38 σ) s H locs := hW
  refine lv_dup hx hb dX9_init_590 rfl ?_
  refine lv_bipush (v := 38) hx hb dX9_init_591 (by decide) ?_
  refine lv_bipush (v := 32) hx hb dX9_init_593 (by decide) ?_
  refine g_ist (k := 70) (i := 38) (L := 96) hx hb hK hW ha (by decide) hn rfl rfl rfl (by decide) (by decide) dX9_init_595 (fun H locs hW => ?_)
  have hW : gW Z A 56 ads (m_fill 70 m9_L70 39 σ) s H locs := hW
  refine lv_dup hx hb dX9_init_596 rfl ?_
  refine lv_bipush (v := 39) hx hb dX9_init_597 (by decide) ?_
  refine lv_bipush (v := 32) hx hb dX9_init_599 (by decide) ?_
  refine g_ist (k := 70) (i := 39) (L := 96) hx hb hK hW ha (by decide) hn rfl rfl rfl (by decide) (by decide) dX9_init_601 (fun H locs hW => ?_)
  have hW : gW Z A 56 ads (m_fill 70 m9_L70 40 σ) s H locs := hW
  refine lv_dup hx hb dX9_init_602 rfl ?_
  refine lv_bipush (v := 40) hx hb dX9_init_603 (by decide) ?_
  refine lv_bipush (v := 105) hx hb dX9_init_605 (by decide) ?_
  refine g_ist (k := 70) (i := 40) (L := 96) hx hb hK hW ha (by decide) hn rfl rfl rfl (by decide) (by decide) dX9_init_607 (fun H locs hW => ?_)
  have hW : gW Z A 56 ads (m_fill 70 m9_L70 41 σ) s H locs := hW
  refine lv_dup hx hb dX9_init_608 rfl ?_
  refine lv_bipush (v := 41) hx hb dX9_init_609 (by decide) ?_
  refine lv_bipush (v := 116) hx hb dX9_init_611 (by decide) ?_
  refine g_ist (k := 70) (i := 41) (L := 96) hx hb hK hW ha (by decide) hn rfl rfl rfl (by decide) (by decide) dX9_init_613 (fun H locs hW => ?_)
  have hW : gW Z A 56 ads (m_fill 70 m9_L70 42 σ) s H locs := hW
  refine lv_dup hx hb dX9_init_614 rfl ?_
  refine lv_bipush (v := 42) hx hb dX9_init_615 (by decide) ?_
  refine lv_bipush (v := 101) hx hb dX9_init_617 (by decide) ?_
  refine g_ist (k := 70) (i := 42) (L := 96) hx hb hK hW ha (by decide) hn rfl rfl rfl (by decide) (by decide) dX9_init_619 (fun H locs hW => ?_)
  have hW : gW Z A 56 ads (m_fill 70 m9_L70 43 σ) s H locs := hW
  refine lv_dup hx hb dX9_init_620 rfl ?_
  refine lv_bipush (v := 43) hx hb dX9_init_621 (by decide) ?_
  refine lv_bipush (v := 109) hx hb dX9_init_623 (by decide) ?_
  refine g_ist (k := 70) (i := 43) (L := 96) hx hb hK hW ha (by decide) hn rfl rfl rfl (by decide) (by decide) dX9_init_625 (fun H locs hW => ?_)
  have hW : gW Z A 56 ads (m_fill 70 m9_L70 44 σ) s H locs := hW
  refine lv_dup hx hb dX9_init_626 rfl ?_
  refine lv_bipush (v := 44) hx hb dX9_init_627 (by decide) ?_
  refine lv_bipush (v := 32) hx hb dX9_init_629 (by decide) ?_
  refine g_ist (k := 70) (i := 44) (L := 96) hx hb hK hW ha (by decide) hn rfl rfl rfl (by decide) (by decide) dX9_init_631 (fun H locs hW => ?_)
  have hW : gW Z A 56 ads (m_fill 70 m9_L70 45 σ) s H locs := hW
  refine lv_dup hx hb dX9_init_632 rfl ?_
  refine lv_bipush (v := 45) hx hb dX9_init_633 (by decide) ?_
  refine lv_bipush (v := 32) hx hb dX9_init_635 (by decide) ?_
  refine g_ist (k := 70) (i := 45) (L := 96) hx hb hK hW ha (by decide) hn rfl rfl rfl (by decide) (by decide) dX9_init_637 (fun H locs hW => ?_)
  have hW : gW Z A 56 ads (m_fill 70 m9_L70 46 σ) s H locs := hW
  refine lv_dup hx hb dX9_init_638 rfl ?_
  refine lv_bipush (v := 46) hx hb dX9_init_639 (by decide) ?_
  refine lv_bipush (v := 32) hx hb dX9_init_641 (by decide) ?_
  refine g_ist (k := 70) (i := 46) (L := 96) hx hb hK hW ha (by decide) hn rfl rfl rfl (by decide) (by decide) dX9_init_643 (fun H locs hW => ?_)
  have hW : gW Z A 56 ads (m_fill 70 m9_L70 47 σ) s H locs := hW
  refine lv_dup hx hb dX9_init_644 rfl ?_
  refine lv_bipush (v := 47) hx hb dX9_init_645 (by decide) ?_
  refine lv_bipush (v := 32) hx hb dX9_init_647 (by decide) ?_
  refine g_ist (k := 70) (i := 47) (L := 96) hx hb hK hW ha (by decide) hn rfl rfl rfl (by decide) (by decide) dX9_init_649 (fun H locs hW => ?_)
  have hW : gW Z A 56 ads (m_fill 70 m9_L70 48 σ) s H locs := hW
  refine lv_dup hx hb dX9_init_650 rfl ?_
  refine lv_bipush (v := 48) hx hb dX9_init_651 (by decide) ?_
  refine lv_bipush (v := 112) hx hb dX9_init_653 (by decide) ?_
  refine g_ist (k := 70) (i := 48) (L := 96) hx hb hK hW ha (by decide) hn rfl rfl rfl (by decide) (by decide) dX9_init_655 (fun H locs hW => ?_)
  have hW : gW Z A 56 ads (m_fill 70 m9_L70 49 σ) s H locs := hW
  refine lv_dup hx hb dX9_init_656 rfl ?_
  refine lv_bipush (v := 49) hx hb dX9_init_657 (by decide) ?_
  refine lv_bipush (v := 108) hx hb dX9_init_659 (by decide) ?_
  refine g_ist (k := 70) (i := 49) (L := 96) hx hb hK hW ha (by decide) hn rfl rfl rfl (by decide) (by decide) dX9_init_661 (fun H locs hW => ?_)
  have hW : gW Z A 56 ads (m_fill 70 m9_L70 50 σ) s H locs := hW
  refine lv_dup hx hb dX9_init_662 rfl ?_
  refine lv_bipush (v := 50) hx hb dX9_init_663 (by decide) ?_
  refine lv_bipush (v := 97) hx hb dX9_init_665 (by decide) ?_
  refine g_ist (k := 70) (i := 50) (L := 96) hx hb hK hW ha (by decide) hn rfl rfl rfl (by decide) (by decide) dX9_init_667 (fun H locs hW => ?_)
  have hW : gW Z A 56 ads (m_fill 70 m9_L70 51 σ) s H locs := hW
  refine lv_dup hx hb dX9_init_668 rfl ?_
  refine lv_bipush (v := 51) hx hb dX9_init_669 (by decide) ?_
  refine lv_bipush (v := 99) hx hb dX9_init_671 (by decide) ?_
  refine g_ist (k := 70) (i := 51) (L := 96) hx hb hK hW ha (by decide) hn rfl rfl rfl (by decide) (by decide) dX9_init_673 (fun H locs hW => ?_)
  have hW : gW Z A 56 ads (m_fill 70 m9_L70 52 σ) s H locs := hW
  refine lv_dup hx hb dX9_init_674 rfl ?_
  refine lv_bipush (v := 52) hx hb dX9_init_675 (by decide) ?_
  refine lv_bipush (v := 101) hx hb dX9_init_677 (by decide) ?_
  refine g_ist (k := 70) (i := 52) (L := 96) hx hb hK hW ha (by decide) hn rfl rfl rfl (by decide) (by decide) dX9_init_679 (fun H locs hW => ?_)
  have hW : gW Z A 56 ads (m_fill 70 m9_L70 53 σ) s H locs := hW
  refine lv_dup hx hb dX9_init_680 rfl ?_
  refine lv_bipush (v := 53) hx hb dX9_init_681 (by decide) ?_
  refine lv_bipush (v := 32) hx hb dX9_init_683 (by decide) ?_
  refine g_ist (k := 70) (i := 53) (L := 96) hx hb hK hW ha (by decide) hn rfl rfl rfl (by decide) (by decide) dX9_init_685 (fun H locs hW => ?_)
  have hW : gW Z A 56 ads (m_fill 70 m9_L70 54 σ) s H locs := hW
  refine lv_dup hx hb dX9_init_686 rfl ?_
  refine lv_bipush (v := 54) hx hb dX9_init_687 (by decide) ?_
  refine lv_bipush (v := 32) hx hb dX9_init_689 (by decide) ?_
  refine g_ist (k := 70) (i := 54) (L := 96) hx hb hK hW ha (by decide) hn rfl rfl rfl (by decide) (by decide) dX9_init_691 (fun H locs hW => ?_)
  have hW : gW Z A 56 ads (m_fill 70 m9_L70 55 σ) s H locs := hW
  refine lv_dup hx hb dX9_init_692 rfl ?_
  refine lv_bipush (v := 55) hx hb dX9_init_693 (by decide) ?_
  refine lv_bipush (v := 32) hx hb dX9_init_695 (by decide) ?_
  refine g_ist (k := 70) (i := 55) (L := 96) hx hb hK hW ha (by decide) hn rfl rfl rfl (by decide) (by decide) dX9_init_697 (fun H locs hW => ?_)
  have hW : gW Z A 56 ads (m_fill 70 m9_L70 56 σ) s H locs := hW
  refine lv_dup hx hb dX9_init_698 rfl ?_
  refine lv_bipush (v := 56) hx hb dX9_init_699 (by decide) ?_
  refine lv_bipush (v := 110) hx hb dX9_init_701 (by decide) ?_
  refine g_ist (k := 70) (i := 56) (L := 96) hx hb hK hW ha (by decide) hn rfl rfl rfl (by decide) (by decide) dX9_init_703 (fun H locs hW => ?_)
  have hW : gW Z A 56 ads (m_fill 70 m9_L70 57 σ) s H locs := hW
  refine lv_dup hx hb dX9_init_704 rfl ?_
  refine lv_bipush (v := 57) hx hb dX9_init_705 (by decide) ?_
  refine lv_bipush (v := 32) hx hb dX9_init_707 (by decide) ?_
  refine g_ist (k := 70) (i := 57) (L := 96) hx hb hK hW ha (by decide) hn rfl rfl rfl (by decide) (by decide) dX9_init_709 (fun H locs hW => ?_)
  have hW : gW Z A 56 ads (m_fill 70 m9_L70 58 σ) s H locs := hW
  refine lv_dup hx hb dX9_init_710 rfl ?_
  refine lv_bipush (v := 58) hx hb dX9_init_711 (by decide) ?_
  refine lv_bipush (v := 32) hx hb dX9_init_713 (by decide) ?_
  refine g_ist (k := 70) (i := 58) (L := 96) hx hb hK hW ha (by decide) hn rfl rfl rfl (by decide) (by decide) dX9_init_715 (fun H locs hW => ?_)
  have hW : gW Z A 56 ads (m_fill 70 m9_L70 59 σ) s H locs := hW
  refine lv_dup hx hb dX9_init_716 rfl ?_
  refine lv_bipush (v := 59) hx hb dX9_init_717 (by decide) ?_
  refine lv_bipush (v := 32) hx hb dX9_init_719 (by decide) ?_
  refine g_ist (k := 70) (i := 59) (L := 96) hx hb hK hW ha (by decide) hn rfl rfl rfl (by decide) (by decide) dX9_init_721 (fun H locs hW => ?_)
  have hW : gW Z A 56 ads (m_fill 70 m9_L70 60 σ) s H locs := hW
  refine lv_dup hx hb dX9_init_722 rfl ?_
  refine lv_bipush (v := 60) hx hb dX9_init_723 (by decide) ?_
  refine lv_bipush (v := 32) hx hb dX9_init_725 (by decide) ?_
  refine g_ist (k := 70) (i := 60) (L := 96) hx hb hK hW ha (by decide) hn rfl rfl rfl (by decide) (by decide) dX9_init_727 (fun H locs hW => ?_)
  have hW : gW Z A 56 ads (m_fill 70 m9_L70 61 σ) s H locs := hW
  refine lv_dup hx hb dX9_init_728 rfl ?_
  refine lv_bipush (v := 61) hx hb dX9_init_729 (by decide) ?_
  refine lv_bipush (v := 32) hx hb dX9_init_731 (by decide) ?_
  refine g_ist (k := 70) (i := 61) (L := 96) hx hb hK hW ha (by decide) hn rfl rfl rfl (by decide) (by decide) dX9_init_733 (fun H locs hW => ?_)
  have hW : gW Z A 56 ads (m_fill 70 m9_L70 62 σ) s H locs := hW
  refine lv_dup hx hb dX9_init_734 rfl ?_
  refine lv_bipush (v := 62) hx hb dX9_init_735 (by decide) ?_
  refine lv_bipush (v := 32) hx hb dX9_init_737 (by decide) ?_
  refine g_ist (k := 70) (i := 62) (L := 96) hx hb hK hW ha (by decide) hn rfl rfl rfl (by decide) (by decide) dX9_init_739 (fun H locs hW => ?_)
  have hW : gW Z A 56 ads (m_fill 70 m9_L70 63 σ) s H locs := hW
  refine lv_dup hx hb dX9_init_740 rfl ?_
  refine lv_bipush (v := 63) hx hb dX9_init_741 (by decide) ?_
  refine lv_bipush (v := 32) hx hb dX9_init_743 (by decide) ?_
  refine g_ist (k := 70) (i := 63) (L := 96) hx hb hK hW ha (by decide) hn rfl rfl rfl (by decide) (by decide) dX9_init_745 (fun H locs hW => ?_)
  have hW : gW Z A 56 ads (m_fill 70 m9_L70 64 σ) s H locs := hW
  refine lv_dup hx hb dX9_init_746 rfl ?_
  refine lv_bipush (v := 64) hx hb dX9_init_747 (by decide) ?_
  refine lv_bipush (v := 109) hx hb dX9_init_749 (by decide) ?_
  refine g_ist (k := 70) (i := 64) (L := 96) hx hb hK hW ha (by decide) hn rfl rfl rfl (by decide) (by decide) dX9_init_751 (fun H locs hW => ?_)
  have hW : gW Z A 56 ads (m_fill 70 m9_L70 65 σ) s H locs := hW
  refine lv_dup hx hb dX9_init_752 rfl ?_
  refine lv_bipush (v := 65) hx hb dX9_init_753 (by decide) ?_
  refine lv_bipush (v := 111) hx hb dX9_init_755 (by decide) ?_
  refine g_ist (k := 70) (i := 65) (L := 96) hx hb hK hW ha (by decide) hn rfl rfl rfl (by decide) (by decide) dX9_init_757 (fun H locs hW => ?_)
  have hW : gW Z A 56 ads (m_fill 70 m9_L70 66 σ) s H locs := hW
  refine lv_dup hx hb dX9_init_758 rfl ?_
  refine lv_bipush (v := 66) hx hb dX9_init_759 (by decide) ?_
  refine lv_bipush (v := 114) hx hb dX9_init_761 (by decide) ?_
  refine g_ist (k := 70) (i := 66) (L := 96) hx hb hK hW ha (by decide) hn rfl rfl rfl (by decide) (by decide) dX9_init_763 (fun H locs hW => ?_)
  have hW : gW Z A 56 ads (m_fill 70 m9_L70 67 σ) s H locs := hW
  refine lv_dup hx hb dX9_init_764 rfl ?_
  refine lv_bipush (v := 67) hx hb dX9_init_765 (by decide) ?_
  refine lv_bipush (v := 101) hx hb dX9_init_767 (by decide) ?_
  refine g_ist (k := 70) (i := 67) (L := 96) hx hb hK hW ha (by decide) hn rfl rfl rfl (by decide) (by decide) dX9_init_769 (fun H locs hW => ?_)
  have hW : gW Z A 56 ads (m_fill 70 m9_L70 68 σ) s H locs := hW
  refine lv_dup hx hb dX9_init_770 rfl ?_
  refine lv_bipush (v := 68) hx hb dX9_init_771 (by decide) ?_
  refine lv_bipush (v := 32) hx hb dX9_init_773 (by decide) ?_
  refine g_ist (k := 70) (i := 68) (L := 96) hx hb hK hW ha (by decide) hn rfl rfl rfl (by decide) (by decide) dX9_init_775 (fun H locs hW => ?_)
  have hW : gW Z A 56 ads (m_fill 70 m9_L70 69 σ) s H locs := hW
  refine lv_dup hx hb dX9_init_776 rfl ?_
  refine lv_bipush (v := 69) hx hb dX9_init_777 (by decide) ?_
  refine lv_bipush (v := 32) hx hb dX9_init_779 (by decide) ?_
  refine g_ist (k := 70) (i := 69) (L := 96) hx hb hK hW ha (by decide) hn rfl rfl rfl (by decide) (by decide) dX9_init_781 (fun H locs hW => ?_)
  have hW : gW Z A 56 ads (m_fill 70 m9_L70 70 σ) s H locs := hW
  refine lv_dup hx hb dX9_init_782 rfl ?_
  refine lv_bipush (v := 70) hx hb dX9_init_783 (by decide) ?_
  refine lv_bipush (v := 32) hx hb dX9_init_785 (by decide) ?_
  refine g_ist (k := 70) (i := 70) (L := 96) hx hb hK hW ha (by decide) hn rfl rfl rfl (by decide) (by decide) dX9_init_787 (fun H locs hW => ?_)
  have hW : gW Z A 56 ads (m_fill 70 m9_L70 71 σ) s H locs := hW
  refine lv_dup hx hb dX9_init_788 rfl ?_
  refine lv_bipush (v := 71) hx hb dX9_init_789 (by decide) ?_
  refine lv_bipush (v := 32) hx hb dX9_init_791 (by decide) ?_
  refine g_ist (k := 70) (i := 71) (L := 96) hx hb hK hW ha (by decide) hn rfl rfl rfl (by decide) (by decide) dX9_init_793 (fun H locs hW => ?_)
  have hW : gW Z A 56 ads (m_fill 70 m9_L70 72 σ) s H locs := hW
  refine lv_dup hx hb dX9_init_794 rfl ?_
  refine lv_bipush (v := 72) hx hb dX9_init_795 (by decide) ?_
  refine lv_bipush (v := 111) hx hb dX9_init_797 (by decide) ?_
  refine g_ist (k := 70) (i := 72) (L := 96) hx hb hK hW ha (by decide) hn rfl rfl rfl (by decide) (by decide) dX9_init_799 (fun H locs hW => ?_)
  have hW : gW Z A 56 ads (m_fill 70 m9_L70 73 σ) s H locs := hW
  refine lv_dup hx hb dX9_init_800 rfl ?_
  refine lv_bipush (v := 73) hx hb dX9_init_801 (by decide) ?_
  refine lv_bipush (v := 114) hx hb dX9_init_803 (by decide) ?_
  refine g_ist (k := 70) (i := 73) (L := 96) hx hb hK hW ha (by decide) hn rfl rfl rfl (by decide) (by decide) dX9_init_805 (fun H locs hW => ?_)
  have hW : gW Z A 56 ads (m_fill 70 m9_L70 74 σ) s H locs := hW
  refine lv_dup hx hb dX9_init_806 rfl ?_
  refine lv_bipush (v := 74) hx hb dX9_init_807 (by decide) ?_
  refine lv_bipush (v := 32) hx hb dX9_init_809 (by decide) ?_
  refine g_ist (k := 70) (i := 74) (L := 96) hx hb hK hW ha (by decide) hn rfl rfl rfl (by decide) (by decide) dX9_init_811 (fun H locs hW => ?_)
  have hW : gW Z A 56 ads (m_fill 70 m9_L70 75 σ) s H locs := hW
  refine lv_dup hx hb dX9_init_812 rfl ?_
  refine lv_bipush (v := 75) hx hb dX9_init_813 (by decide) ?_
  refine lv_bipush (v := 32) hx hb dX9_init_815 (by decide) ?_
  refine g_ist (k := 70) (i := 75) (L := 96) hx hb hK hW ha (by decide) hn rfl rfl rfl (by decide) (by decide) dX9_init_817 (fun H locs hW => ?_)
  have hW : gW Z A 56 ads (m_fill 70 m9_L70 76 σ) s H locs := hW
  refine lv_dup hx hb dX9_init_818 rfl ?_
  refine lv_bipush (v := 76) hx hb dX9_init_819 (by decide) ?_
  refine lv_bipush (v := 32) hx hb dX9_init_821 (by decide) ?_
  refine g_ist (k := 70) (i := 76) (L := 96) hx hb hK hW ha (by decide) hn rfl rfl rfl (by decide) (by decide) dX9_init_823 (fun H locs hW => ?_)
  have hW : gW Z A 56 ads (m_fill 70 m9_L70 77 σ) s H locs := hW
  refine lv_dup hx hb dX9_init_824 rfl ?_
  refine lv_bipush (v := 77) hx hb dX9_init_825 (by decide) ?_
  refine lv_bipush (v := 32) hx hb dX9_init_827 (by decide) ?_
  refine g_ist (k := 70) (i := 77) (L := 96) hx hb hK hW ha (by decide) hn rfl rfl rfl (by decide) (by decide) dX9_init_829 (fun H locs hW => ?_)
  have hW : gW Z A 56 ads (m_fill 70 m9_L70 78 σ) s H locs := hW
  refine lv_dup hx hb dX9_init_830 rfl ?_
  refine lv_bipush (v := 78) hx hb dX9_init_831 (by decide) ?_
  refine lv_bipush (v := 32) hx hb dX9_init_833 (by decide) ?_
  refine g_ist (k := 70) (i := 78) (L := 96) hx hb hK hW ha (by decide) hn rfl rfl rfl (by decide) (by decide) dX9_init_835 (fun H locs hW => ?_)
  have hW : gW Z A 56 ads (m_fill 70 m9_L70 79 σ) s H locs := hW
  refine lv_dup hx hb dX9_init_836 rfl ?_
  refine lv_bipush (v := 79) hx hb dX9_init_837 (by decide) ?_
  refine lv_bipush (v := 32) hx hb dX9_init_839 (by decide) ?_
  refine g_ist (k := 70) (i := 79) (L := 96) hx hb hK hW ha (by decide) hn rfl rfl rfl (by decide) (by decide) dX9_init_841 (fun H locs hW => ?_)
  have hW : gW Z A 56 ads (m_fill 70 m9_L70 80 σ) s H locs := hW
  refine lv_dup hx hb dX9_init_842 rfl ?_
  refine lv_bipush (v := 80) hx hb dX9_init_843 (by decide) ?_
  refine lv_bipush (v := 97) hx hb dX9_init_845 (by decide) ?_
  refine g_ist (k := 70) (i := 80) (L := 96) hx hb hK hW ha (by decide) hn rfl rfl rfl (by decide) (by decide) dX9_init_847 (fun H locs hW => ?_)
  have hW : gW Z A 56 ads (m_fill 70 m9_L70 81 σ) s H locs := hW
  refine lv_dup hx hb dX9_init_848 rfl ?_
  refine lv_bipush (v := 81) hx hb dX9_init_849 (by decide) ?_
  refine lv_bipush (v := 110) hx hb dX9_init_851 (by decide) ?_
  refine g_ist (k := 70) (i := 81) (L := 96) hx hb hK hW ha (by decide) hn rfl rfl rfl (by decide) (by decide) dX9_init_853 (fun H locs hW => ?_)
  have hW : gW Z A 56 ads (m_fill 70 m9_L70 82 σ) s H locs := hW
  refine lv_dup hx hb dX9_init_854 rfl ?_
  refine lv_bipush (v := 82) hx hb dX9_init_855 (by decide) ?_
  refine lv_bipush (v := 100) hx hb dX9_init_857 (by decide) ?_
  refine g_ist (k := 70) (i := 82) (L := 96) hx hb hK hW ha (by decide) hn rfl rfl rfl (by decide) (by decide) dX9_init_859 (fun H locs hW => ?_)
  have hW : gW Z A 56 ads (m_fill 70 m9_L70 83 σ) s H locs := hW
  refine lv_dup hx hb dX9_init_860 rfl ?_
  refine lv_bipush (v := 83) hx hb dX9_init_861 (by decide) ?_
  refine lv_bipush (v := 32) hx hb dX9_init_863 (by decide) ?_
  refine g_ist (k := 70) (i := 83) (L := 96) hx hb hK hW ha (by decide) hn rfl rfl rfl (by decide) (by decide) dX9_init_865 (fun H locs hW => ?_)
  have hW : gW Z A 56 ads (m_fill 70 m9_L70 84 σ) s H locs := hW
  refine lv_dup hx hb dX9_init_866 rfl ?_
  refine lv_bipush (v := 84) hx hb dX9_init_867 (by decide) ?_
  refine lv_bipush (v := 32) hx hb dX9_init_869 (by decide) ?_
  refine g_ist (k := 70) (i := 84) (L := 96) hx hb hK hW ha (by decide) hn rfl rfl rfl (by decide) (by decide) dX9_init_871 (fun H locs hW => ?_)
  have hW : gW Z A 56 ads (m_fill 70 m9_L70 85 σ) s H locs := hW
  refine lv_dup hx hb dX9_init_872 rfl ?_
  refine lv_bipush (v := 85) hx hb dX9_init_873 (by decide) ?_
  refine lv_bipush (v := 32) hx hb dX9_init_875 (by decide) ?_
  refine g_ist (k := 70) (i := 85) (L := 96) hx hb hK hW ha (by decide) hn rfl rfl rfl (by decide) (by decide) dX9_init_877 (fun H locs hW => ?_)
  have hW : gW Z A 56 ads (m_fill 70 m9_L70 86 σ) s H locs := hW
  refine lv_dup hx hb dX9_init_878 rfl ?_
  refine lv_bipush (v := 86) hx hb dX9_init_879 (by decide) ?_
  refine lv_bipush (v := 32) hx hb dX9_init_881 (by decide) ?_
  refine g_ist (k := 70) (i := 86) (L := 96) hx hb hK hW ha (by decide) hn rfl rfl rfl (by decide) (by decide) dX9_init_883 (fun H locs hW => ?_)
  have hW : gW Z A 56 ads (m_fill 70 m9_L70 87 σ) s H locs := hW
  refine lv_dup hx hb dX9_init_884 rfl ?_
  refine lv_bipush (v := 87) hx hb dX9_init_885 (by decide) ?_
  refine lv_bipush (v := 32) hx hb dX9_init_887 (by decide) ?_
  refine g_ist (k := 70) (i := 87) (L := 96) hx hb hK hW ha (by decide) hn rfl rfl rfl (by decide) (by decide) dX9_init_889 (fun H locs hW => ?_)
  have hW : gW Z A 56 ads (m_fill 70 m9_L70 88 σ) s H locs := hW
  refine lv_dup hx hb dX9_init_890 rfl ?_
  refine lv_bipush (v := 88) hx hb dX9_init_891 (by decide) ?_
  refine lv_bipush (v := 110) hx hb dX9_init_893 (by decide) ?_
  refine g_ist (k := 70) (i := 88) (L := 96) hx hb hK hW ha (by decide) hn rfl rfl rfl (by decide) (by decide) dX9_init_895 (fun H locs hW => ?_)
  have hW : gW Z A 56 ads (m_fill 70 m9_L70 89 σ) s H locs := hW
  refine lv_dup hx hb dX9_init_896 rfl ?_
  refine lv_bipush (v := 89) hx hb dX9_init_897 (by decide) ?_
  refine lv_bipush (v := 111) hx hb dX9_init_899 (by decide) ?_
  refine g_ist (k := 70) (i := 89) (L := 96) hx hb hK hW ha (by decide) hn rfl rfl rfl (by decide) (by decide) dX9_init_901 (fun H locs hW => ?_)
  have hW : gW Z A 56 ads (m_fill 70 m9_L70 90 σ) s H locs := hW
  refine lv_dup hx hb dX9_init_902 rfl ?_
  refine lv_bipush (v := 90) hx hb dX9_init_903 (by decide) ?_
  refine lv_bipush (v := 116) hx hb dX9_init_905 (by decide) ?_
  refine g_ist (k := 70) (i := 90) (L := 96) hx hb hK hW ha (by decide) hn rfl rfl rfl (by decide) (by decide) dX9_init_907 (fun H locs hW => ?_)
  have hW : gW Z A 56 ads (m_fill 70 m9_L70 91 σ) s H locs := hW
  refine lv_dup hx hb dX9_init_908 rfl ?_
  refine lv_bipush (v := 91) hx hb dX9_init_909 (by decide) ?_
  refine lv_bipush (v := 32) hx hb dX9_init_911 (by decide) ?_
  refine g_ist (k := 70) (i := 91) (L := 96) hx hb hK hW ha (by decide) hn rfl rfl rfl (by decide) (by decide) dX9_init_913 (fun H locs hW => ?_)
  have hW : gW Z A 56 ads (m_fill 70 m9_L70 92 σ) s H locs := hW
  refine lv_dup hx hb dX9_init_914 rfl ?_
  refine lv_bipush (v := 92) hx hb dX9_init_915 (by decide) ?_
  refine lv_bipush (v := 32) hx hb dX9_init_917 (by decide) ?_
  refine g_ist (k := 70) (i := 92) (L := 96) hx hb hK hW ha (by decide) hn rfl rfl rfl (by decide) (by decide) dX9_init_919 (fun H locs hW => ?_)
  have hW : gW Z A 56 ads (m_fill 70 m9_L70 93 σ) s H locs := hW
  refine lv_dup hx hb dX9_init_920 rfl ?_
  refine lv_bipush (v := 93) hx hb dX9_init_921 (by decide) ?_
  refine lv_bipush (v := 32) hx hb dX9_init_923 (by decide) ?_
  refine g_ist (k := 70) (i := 93) (L := 96) hx hb hK hW ha (by decide) hn rfl rfl rfl (by decide) (by decide) dX9_init_925 (fun H locs hW => ?_)
  have hW : gW Z A 56 ads (m_fill 70 m9_L70 94 σ) s H locs := hW
  refine lv_dup hx hb dX9_init_926 rfl ?_
  refine lv_bipush (v := 94) hx hb dX9_init_927 (by decide) ?_
  refine lv_bipush (v := 32) hx hb dX9_init_929 (by decide) ?_
  refine g_ist (k := 70) (i := 94) (L := 96) hx hb hK hW ha (by decide) hn rfl rfl rfl (by decide) (by decide) dX9_init_931 (fun H locs hW => ?_)
  have hW : gW Z A 56 ads (m_fill 70 m9_L70 95 σ) s H locs := hW
  refine lv_dup hx hb dX9_init_932 rfl ?_
  refine lv_bipush (v := 95) hx hb dX9_init_933 (by decide) ?_
  refine lv_bipush (v := 32) hx hb dX9_init_935 (by decide) ?_
  refine g_ist (k := 70) (i := 95) (L := 96) hx hb hK hW ha (by decide) hn rfl rfl rfl (by decide) (by decide) dX9_init_937 (fun H locs hW => ?_)
  have hW : gW Z A 56 ads (m_fill 70 m9_L70 96 σ) s H locs := hW
  exact kk H locs hW

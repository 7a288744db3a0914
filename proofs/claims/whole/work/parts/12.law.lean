abbrev rm_X2_isTold : Room := { frames := 0, cells := 0, slots := 0, locals := 0 }
theorem dvX2_isTold : zk_dv yX2_isTold RX2 0 := by decide +kernel
set_option maxRecDepth 100000 in
set_option maxHeartbeats 4000000 in
theorem ct_X2_isTold (l : Launch) (D : va_G) (g : Nat → ClassId) (τ : Nat → Nat) (a : Nat → Nat) (kc : Nat) (kv : Nat) (kn : Nat) (km : Nat) (sz : Nat) (ns : Int32) (ln : Nat) (at1 : Int32) (ft : Int32) (hs : sz ≤ 128) : zk_MI l D g τ yX2_isTold wsX2_isTold rm_X2_isTold [.ref (a 1)] [(a 1, .inr (2, [.ref (a 10), .ref (a 11), .ref (a 12), .ref kc, .ref kv, .ref kn, .ref km, .int (nI sz), .int ns, .int (nI ln), .int at1, .int ft]))] (fun (r : Int32) (_ : Unit) => r = zk_b (decide (0 < sz))) (fun (_ : Unit) => [(a 1, .inr (2, [.ref (a 10), .ref (a 11), .ref (a 12), .ref kc, .ref kv, .ref kn, .ref km, .int (nI sz), .int ns, .int (nI ln), .int at1, .int ft]))]) := by
  refine zk_of (Qc := fun A => va_Qi (fun (r : Int32) (_ : Unit) => r = zk_b (decide (0 < sz))) (zk_B D g A (fun (_ : Unit) => [(a 1, .inr (2, [.ref (a 10), .ref (a 11), .ref (a 12), .ref kc, .ref kv, .ref kn, .ref km, .int (nI sz), .int ns, .int (nI ln), .int at1, .int ft]))])) A) (cc := cX2_isTold) (maxL := 1) (ret := (some .boolean)) (own := RX2) (by decide) rfl rfl (Nat.le_of_ble_eq_true rfl) ?_
  intro pP eE sS mM args below meth cC aA ls qQ Z hR_ hlk hnm hK hT hA hQ G hl
  have hinX2 : ∀ w ∈ u_ws RX2 TX2 12, w ∈ wsX2_isTold := (fun _ h => List.mem_cons_of_mem _ (List.mem_append_right _ h))
  refine lv_aload_n Z.1 Z.2.1 dX2_isTold_0 rfl (lv_at hl 0 rfl) ?_
  refine zk_get (C := RX2) (T := TX2) (N := 12) (ci := 2) Z hK G hinX2 0 rfl rfl 7 (by decide) (List.mem_of_getElem? (i := 1) rfl) rfl (v := .int (nI sz)) rfl dX2_isTold_1 ?_
  refine lv_if_le (tgt := 11) Z.1 Z.2.1 dX2_isTold_4 (by decide) (fun c4 => ?_) (fun c4 => ?_)
  · have c4 : sz ≤ 0 := zk_le (by omega) (by omega) c4
    refine lv_iconst (v := nI 0) Z.1 Z.2.1 dX2_isTold_11 (by decide +kernel) ?_
    refine W.eq (g2 := F0 mM 12 ls [.int (zk_b false)]) rfl ?_
    exact zk_retz Z hR_ hlk hK hQ G () (congrArg zk_b (by simp [c4])) rfl dX2_isTold_12
  have c4 : 0 < sz := zk_nle (by omega) (by omega) c4
  refine lv_iconst (v := nI 1) Z.1 Z.2.1 dX2_isTold_7 (by decide +kernel) ?_
  refine lv_goto (tgt := 12) Z.1 Z.2.1 dX2_isTold_8 (by decide) ?_
  refine W.eq (g2 := F0 mM 12 ls [.int (zk_b true)]) rfl ?_
  exact zk_retz Z hR_ hlk hK hQ G () (congrArg zk_b (by simp [c4])) rfl dX2_isTold_12

abbrev rm_X2_workOut : Room := { frames := 0, cells := 0, slots := 0, locals := 0 }
theorem dvX2_workOut : zk_dv yX2_workOut RX2 3 := by decide +kernel
set_option maxRecDepth 100000 in
set_option maxHeartbeats 4000000 in
theorem ct_X2_workOut (l : Launch) (D : va_G) (g : Nat → ClassId) (τ : Nat → Nat) (c1 : Nat) (x : Int32) (y : Int32) (hc : c1 < 256) : zk_MI l D g τ yX2_workOut wsX2_workOut rm_X2_workOut [.int (nI c1), .int x, .int y] [] (fun (r : Int32) (_ : Unit) => r = zl_op c1 x y) (fun (_ : Unit) => []) := by
  refine zk_of (Qc := fun A => va_Qi (fun (r : Int32) (_ : Unit) => r = zl_op c1 x y) (zk_B D g A (fun (_ : Unit) => [])) A) (cc := cX2_workOut) (maxL := 3) (ret := (some .int)) (own := RX2) (by decide) rfl rfl (Nat.le_of_ble_eq_true rfl) ?_
  intro pP eE sS mM args below meth cC aA ls qQ Z hR_ hlk hnm hK hT hA hQ G hl
  refine lv_iload_n Z.1 Z.2.1 dX2_workOut_0 rfl (lv_at hl 0 rfl) ?_
  by_cases c1_5 : c1 = 5
  · subst c1_5
    refine lv_lookup (tgt := 118) Z.1 Z.2.1 dX2_workOut_1 (by decide) (by rfl) (by decide) ?_
    refine lv_iload_n Z.1 Z.2.1 dX2_workOut_118 rfl (lv_at hl 2 rfl) ?_
    refine zk_ineg Z dX2_workOut_119 (z := 0 - y) rfl ?_
    exact zk_reti Z hR_ hlk hK hQ G () (by simp [zl_op]) rfl dX2_workOut_120
  by_cases c1_6 : c1 = 6
  · subst c1_6
    refine lv_lookup (tgt := 108) Z.1 Z.2.1 dX2_workOut_1 (by decide) (by rfl) (by decide) ?_
    refine lv_iload_n Z.1 Z.2.1 dX2_workOut_108 rfl (lv_at hl 2 rfl) ?_
    refine lv_if_ne (tgt := 116) Z.1 Z.2.1 dX2_workOut_109 (by decide) (fun c109 => ?_) (fun c109 => ?_)
    · have c109 : ¬ y = 0 := c109
      refine lv_iconst (v := nI 0) Z.1 Z.2.1 dX2_workOut_116 (by decide +kernel) ?_
      exact zk_reti Z hR_ hlk hK hQ G () (by simp [zl_op, c109]) rfl dX2_workOut_117
    have c109 : y = 0 := c109
    refine lv_iconst (v := nI 1) Z.1 Z.2.1 dX2_workOut_112 (by decide +kernel) ?_
    refine lv_goto (tgt := 117) Z.1 Z.2.1 dX2_workOut_113 (by decide) ?_
    exact zk_reti Z hR_ hlk hK hQ G () (by simp [zl_op, c109]) rfl dX2_workOut_117
  by_cases c1_37 : c1 = 37
  · subst c1_37
    refine lv_lookup (tgt := 206) Z.1 Z.2.1 dX2_workOut_1 (by decide) (by rfl) (by decide) ?_
    refine lv_iload_n Z.1 Z.2.1 dX2_workOut_206 rfl (lv_at hl 2 rfl) ?_
    refine lv_if_ne (tgt := 214) Z.1 Z.2.1 dX2_workOut_207 (by decide) (fun c207 => ?_) (fun c207 => ?_)
    · have c207 : ¬ y = 0 := c207
      refine lv_iload_n Z.1 Z.2.1 dX2_workOut_214 rfl (lv_at hl 1 rfl) ?_
      refine lv_iload_n Z.1 Z.2.1 dX2_workOut_215 rfl (lv_at hl 2 rfl) ?_
      refine zk_irem Z dX2_workOut_216 c207 (z := x - x / y * y) rfl ?_
      exact zk_reti Z hR_ hlk hK hQ G () (by simp [zl_op, c207]) rfl dX2_workOut_217
    have c207 : y = 0 := c207
    refine lv_iconst (v := nI 0) Z.1 Z.2.1 dX2_workOut_210 (by decide +kernel) ?_
    refine lv_goto (tgt := 217) Z.1 Z.2.1 dX2_workOut_211 (by decide) ?_
    exact zk_reti Z hR_ hlk hK hQ G () (by simp [zl_op, c207]) rfl dX2_workOut_217
  by_cases c1_38 : c1 = 38
  · subst c1_38
    refine lv_lookup (tgt := 135) Z.1 Z.2.1 dX2_workOut_1 (by decide) (by rfl) (by decide) ?_
    refine lv_iload_n Z.1 Z.2.1 dX2_workOut_135 rfl (lv_at hl 1 rfl) ?_
    refine lv_if_eq (tgt := 147) Z.1 Z.2.1 dX2_workOut_136 (by decide) (fun c136 => ?_) (fun c136 => ?_)
    · have c136 : x = 0 := c136
      refine lv_iconst (v := nI 0) Z.1 Z.2.1 dX2_workOut_147 (by decide +kernel) ?_
      exact zk_reti Z hR_ hlk hK hQ G () (by simp [zl_op, c136]) rfl dX2_workOut_148
    have c136 : ¬ x = 0 := c136
    refine lv_iload_n Z.1 Z.2.1 dX2_workOut_139 rfl (lv_at hl 2 rfl) ?_
    refine lv_if_eq (tgt := 147) Z.1 Z.2.1 dX2_workOut_140 (by decide) (fun c140 => ?_) (fun c140 => ?_)
    · have c140 : y = 0 := c140
      refine lv_iconst (v := nI 0) Z.1 Z.2.1 dX2_workOut_147 (by decide +kernel) ?_
      exact zk_reti Z hR_ hlk hK hQ G () (by simp [zl_op, c136, c140]) rfl dX2_workOut_148
    have c140 : ¬ y = 0 := c140
    refine lv_iconst (v := nI 1) Z.1 Z.2.1 dX2_workOut_143 (by decide +kernel) ?_
    refine lv_goto (tgt := 148) Z.1 Z.2.1 dX2_workOut_144 (by decide) ?_
    exact zk_reti Z hR_ hlk hK hQ G () (by simp [zl_op, c136, c140]) rfl dX2_workOut_148
  by_cases c1_42 : c1 = 42
  · subst c1_42
    refine lv_lookup (tgt := 190) Z.1 Z.2.1 dX2_workOut_1 (by decide) (by rfl) (by decide) ?_
    refine lv_iload_n Z.1 Z.2.1 dX2_workOut_190 rfl (lv_at hl 1 rfl) ?_
    refine lv_iload_n Z.1 Z.2.1 dX2_workOut_191 rfl (lv_at hl 2 rfl) ?_
    refine zk_imul Z dX2_workOut_192 (z := x * y) rfl ?_
    exact zk_reti Z hR_ hlk hK hQ G () (by simp [zl_op]) rfl dX2_workOut_193
  by_cases c1_43 : c1 = 43
  · subst c1_43
    refine lv_lookup (tgt := 182) Z.1 Z.2.1 dX2_workOut_1 (by decide) (by rfl) (by decide) ?_
    refine lv_iload_n Z.1 Z.2.1 dX2_workOut_182 rfl (lv_at hl 1 rfl) ?_
    refine lv_iload_n Z.1 Z.2.1 dX2_workOut_183 rfl (lv_at hl 2 rfl) ?_
    refine zk_iadd Z dX2_workOut_184 (z := x + y) rfl ?_
    exact zk_reti Z hR_ hlk hK hQ G () (by simp [zl_op]) rfl dX2_workOut_185
  by_cases c1_45 : c1 = 45
  · subst c1_45
    refine lv_lookup (tgt := 186) Z.1 Z.2.1 dX2_workOut_1 (by decide) (by rfl) (by decide) ?_
    refine lv_iload_n Z.1 Z.2.1 dX2_workOut_186 rfl (lv_at hl 1 rfl) ?_
    refine lv_iload_n Z.1 Z.2.1 dX2_workOut_187 rfl (lv_at hl 2 rfl) ?_
    refine zk_isub Z dX2_workOut_188 (z := x - y) rfl ?_
    exact zk_reti Z hR_ hlk hK hQ G () (by simp [zl_op]) rfl dX2_workOut_189
  by_cases c1_47 : c1 = 47
  · subst c1_47
    refine lv_lookup (tgt := 194) Z.1 Z.2.1 dX2_workOut_1 (by decide) (by rfl) (by decide) ?_
    refine lv_iload_n Z.1 Z.2.1 dX2_workOut_194 rfl (lv_at hl 2 rfl) ?_
    refine lv_if_ne (tgt := 202) Z.1 Z.2.1 dX2_workOut_195 (by decide) (fun c195 => ?_) (fun c195 => ?_)
    · have c195 : ¬ y = 0 := c195
      refine lv_iload_n Z.1 Z.2.1 dX2_workOut_202 rfl (lv_at hl 1 rfl) ?_
      refine lv_iload_n Z.1 Z.2.1 dX2_workOut_203 rfl (lv_at hl 2 rfl) ?_
      refine zk_idiv Z dX2_workOut_204 c195 (z := x / y) rfl ?_
      exact zk_reti Z hR_ hlk hK hQ G () (by simp [zl_op, c195]) rfl dX2_workOut_205
    have c195 : y = 0 := c195
    refine lv_iconst (v := nI 0) Z.1 Z.2.1 dX2_workOut_198 (by decide +kernel) ?_
    refine lv_goto (tgt := 205) Z.1 Z.2.1 dX2_workOut_199 (by decide) ?_
    exact zk_reti Z hR_ hlk hK hQ G () (by simp [zl_op, c195]) rfl dX2_workOut_205
  by_cases c1_60 : c1 = 60
  · subst c1_60
    refine lv_lookup (tgt := 149) Z.1 Z.2.1 dX2_workOut_1 (by decide) (by rfl) (by decide) ?_
    refine lv_iload_n Z.1 Z.2.1 dX2_workOut_149 rfl (lv_at hl 1 rfl) ?_
    refine lv_iload_n Z.1 Z.2.1 dX2_workOut_150 rfl (lv_at hl 2 rfl) ?_
    refine lv_icmp_ge (tgt := 158) Z.1 Z.2.1 dX2_workOut_151 (by decide) (fun c151 => ?_) (fun c151 => ?_)
    · have c151 : y ≤ x := c151
      refine lv_iconst (v := nI 0) Z.1 Z.2.1 dX2_workOut_158 (by decide +kernel) ?_
      exact zk_reti Z hR_ hlk hK hQ G () (by simp [zl_op, c151]) rfl dX2_workOut_159
    have c151 : ¬ y ≤ x := c151
    refine lv_iconst (v := nI 1) Z.1 Z.2.1 dX2_workOut_154 (by decide +kernel) ?_
    refine lv_goto (tgt := 159) Z.1 Z.2.1 dX2_workOut_155 (by decide) ?_
    exact zk_reti Z hR_ hlk hK hQ G () (by simp [zl_op, c151]) rfl dX2_workOut_159
  by_cases c1_61 : c1 = 61
  · subst c1_61
    refine lv_lookup (tgt := 160) Z.1 Z.2.1 dX2_workOut_1 (by decide) (by rfl) (by decide) ?_
    refine lv_iload_n Z.1 Z.2.1 dX2_workOut_160 rfl (lv_at hl 1 rfl) ?_
    refine lv_iload_n Z.1 Z.2.1 dX2_workOut_161 rfl (lv_at hl 2 rfl) ?_
    refine lv_icmp_ne (tgt := 169) Z.1 Z.2.1 dX2_workOut_162 (by decide) (fun c162 => ?_) (fun c162 => ?_)
    · have c162 : ¬ x = y := c162
      refine lv_iconst (v := nI 0) Z.1 Z.2.1 dX2_workOut_169 (by decide +kernel) ?_
      exact zk_reti Z hR_ hlk hK hQ G () (by simp [zl_op, c162]) rfl dX2_workOut_170
    have c162 : x = y := c162
    refine lv_iconst (v := nI 1) Z.1 Z.2.1 dX2_workOut_165 (by decide +kernel) ?_
    refine lv_goto (tgt := 170) Z.1 Z.2.1 dX2_workOut_166 (by decide) ?_
    exact zk_reti Z hR_ hlk hK hQ G () (by simp [zl_op, c162]) rfl dX2_workOut_170
  by_cases c1_62 : c1 = 62
  · subst c1_62
    refine lv_lookup (tgt := 171) Z.1 Z.2.1 dX2_workOut_1 (by decide) (by rfl) (by decide) ?_
    refine lv_iload_n Z.1 Z.2.1 dX2_workOut_171 rfl (lv_at hl 1 rfl) ?_
    refine lv_iload_n Z.1 Z.2.1 dX2_workOut_172 rfl (lv_at hl 2 rfl) ?_
    refine lv_icmp_le (tgt := 180) Z.1 Z.2.1 dX2_workOut_173 (by decide) (fun c173 => ?_) (fun c173 => ?_)
    · have c173 : x ≤ y := c173
      refine lv_iconst (v := nI 0) Z.1 Z.2.1 dX2_workOut_180 (by decide +kernel) ?_
      exact zk_reti Z hR_ hlk hK hQ G () (by simp [zl_op, c173]) rfl dX2_workOut_181
    have c173 : ¬ x ≤ y := c173
    refine lv_iconst (v := nI 1) Z.1 Z.2.1 dX2_workOut_176 (by decide +kernel) ?_
    refine lv_goto (tgt := 181) Z.1 Z.2.1 dX2_workOut_177 (by decide) ?_
    exact zk_reti Z hR_ hlk hK hQ G () (by simp [zl_op, c173]) rfl dX2_workOut_181
  by_cases c1_124 : c1 = 124
  · subst c1_124
    refine lv_lookup (tgt := 121) Z.1 Z.2.1 dX2_workOut_1 (by decide) (by rfl) (by decide) ?_
    refine lv_iload_n Z.1 Z.2.1 dX2_workOut_121 rfl (lv_at hl 1 rfl) ?_
    refine lv_if_ne (tgt := 129) Z.1 Z.2.1 dX2_workOut_122 (by decide) (fun c122 => ?_) (fun c122 => ?_)
    · have c122 : ¬ x = 0 := c122
      refine lv_iconst (v := nI 1) Z.1 Z.2.1 dX2_workOut_129 (by decide +kernel) ?_
      refine lv_goto (tgt := 134) Z.1 Z.2.1 dX2_workOut_130 (by decide) ?_
      exact zk_reti Z hR_ hlk hK hQ G () (by simp [zl_op, c122]) rfl dX2_workOut_134
    have c122 : x = 0 := c122
    refine lv_iload_n Z.1 Z.2.1 dX2_workOut_125 rfl (lv_at hl 2 rfl) ?_
    refine lv_if_eq (tgt := 133) Z.1 Z.2.1 dX2_workOut_126 (by decide) (fun c126 => ?_) (fun c126 => ?_)
    · have c126 : y = 0 := c126
      refine lv_iconst (v := nI 0) Z.1 Z.2.1 dX2_workOut_133 (by decide +kernel) ?_
      exact zk_reti Z hR_ hlk hK hQ G () (by simp [zl_op, c122, c126]) rfl dX2_workOut_134
    have c126 : ¬ y = 0 := c126
    refine lv_iconst (v := nI 1) Z.1 Z.2.1 dX2_workOut_129 (by decide +kernel) ?_
    refine lv_goto (tgt := 134) Z.1 Z.2.1 dX2_workOut_130 (by decide) ?_
    exact zk_reti Z hR_ hlk hK hQ G () (by simp [zl_op, c122, c126]) rfl dX2_workOut_134
  have qc1_5 : ¬ nI c1 = nI 5 := zk_neqi (by omega) (by decide) c1_5
  have qc1_6 : ¬ nI c1 = nI 6 := zk_neqi (by omega) (by decide) c1_6
  have qc1_37 : ¬ nI c1 = nI 37 := zk_neqi (by omega) (by decide) c1_37
  have qc1_38 : ¬ nI c1 = nI 38 := zk_neqi (by omega) (by decide) c1_38
  have qc1_42 : ¬ nI c1 = nI 42 := zk_neqi (by omega) (by decide) c1_42
  have qc1_43 : ¬ nI c1 = nI 43 := zk_neqi (by omega) (by decide) c1_43
  have qc1_45 : ¬ nI c1 = nI 45 := zk_neqi (by omega) (by decide) c1_45
  have qc1_47 : ¬ nI c1 = nI 47 := zk_neqi (by omega) (by decide) c1_47
  have qc1_60 : ¬ nI c1 = nI 60 := zk_neqi (by omega) (by decide) c1_60
  have qc1_61 : ¬ nI c1 = nI 61 := zk_neqi (by omega) (by decide) c1_61
  have qc1_62 : ¬ nI c1 = nI 62 := zk_neqi (by omega) (by decide) c1_62
  have qc1_124 : ¬ nI c1 = nI 124 := zk_neqi (by omega) (by decide) c1_124
  refine lv_lookup (tgt := 218) Z.1 Z.2.1 dX2_workOut_1 (by decide) (off := 217) (by show Op.lookupswitch.offset [(5, 117), (6, 107), (37, 205), (38, 134), (42, 189), (43, 181), (45, 185), (47, 193), (60, 148), (61, 159), (62, 170), (124, 120)] 217 _ = _; rw [lv_osw qc1_5 (by decide), lv_osw qc1_6 (by decide), lv_osw qc1_37 (by decide), lv_osw qc1_38 (by decide), lv_osw qc1_42 (by decide), lv_osw qc1_43 (by decide), lv_osw qc1_45 (by decide), lv_osw qc1_47 (by decide), lv_osw qc1_60 (by decide), lv_osw qc1_61 (by decide), lv_osw qc1_62 (by decide), lv_osw qc1_124 (by decide)]; rfl) (by decide) ?_
  refine lv_iconst (v := nI 0) Z.1 Z.2.1 dX2_workOut_218 (by decide +kernel) ?_
  exact zk_reti Z hR_ hlk hK hQ G () (by simp [zl_op, c1_5, c1_6, c1_37, c1_38, c1_42, c1_43, c1_45, c1_47, c1_60, c1_61, c1_62, c1_124]) rfl dX2_workOut_219

abbrev rm_X2_value : Room := { frames := 1, cells := 0, slots := 0, locals := 40 }
theorem dvX2_value : zk_dv yX2_value RX2 0 := by decide +kernel
set_option maxRecDepth 100000 in
set_option maxHeartbeats 4000000 in
theorem ct_X2_value (l : Launch) (D : va_G) (g : Nat → ClassId) (τ : Nat → Nat) (a : Nat → Nat) (kc : Nat) (kv : Nat) (kn : Nat) (km : Nat) (sz : Nat) (ns : Int32) (ln : Nat) (at1 : Int32) (ft : Int32) (C : Nat → Nat) (X : Nat → Nat) (nm : Nat → Int32) (stk : Nat → Int32) (hwf : zl_wf C X sz) : zk_MI l D g τ yX2_value wsX2_value rm_X2_value [.ref (a 1)] [(a 1, .inr (2, [.ref (a 10), .ref (a 11), .ref (a 12), .ref kc, .ref kv, .ref kn, .ref km, .int (nI sz), .int ns, .int (nI ln), .int at1, .int ft])), (a 10, .inl (g 0, 6, .inl nm)), (a 12, .inl (g 0, 128, .inl stk)), (kc, .inl (g 0, 128, .inl (fun i => nI (C i)))), (kv, .inl (g 0, 128, .inl (fun i => nI (X i))))] (fun (r : Int32) (stk1 : Nat → Int32) => r = zl_ev C X sz nm) (fun (stk1 : Nat → Int32) => [(a 1, .inr (2, [.ref (a 10), .ref (a 11), .ref (a 12), .ref kc, .ref kv, .ref kn, .ref km, .int (nI sz), .int ns, .int (nI ln), .int at1, .int ft])), (a 10, .inl (g 0, 6, .inl nm)), (a 12, .inl (g 0, 128, .inl stk1)), (kc, .inl (g 0, 128, .inl (fun i => nI (C i)))), (kv, .inl (g 0, 128, .inl (fun i => nI (X i))))]) := by
  refine zk_of (Qc := fun A => va_Qi (fun (r : Int32) (stk1 : Nat → Int32) => r = zl_ev C X sz nm) (zk_B D g A (fun (stk1 : Nat → Int32) => [(a 1, .inr (2, [.ref (a 10), .ref (a 11), .ref (a 12), .ref kc, .ref kv, .ref kn, .ref km, .int (nI sz), .int ns, .int (nI ln), .int at1, .int ft])), (a 10, .inl (g 0, 6, .inl nm)), (a 12, .inl (g 0, 128, .inl stk1)), (kc, .inl (g 0, 128, .inl (fun i => nI (C i)))), (kv, .inl (g 0, 128, .inl (fun i => nI (X i))))])) A) (cc := cX2_value) (maxL := 7) (ret := (some .int)) (own := RX2) (by decide) rfl rfl (Nat.le_of_ble_eq_true rfl) ?_
  intro pP eE sS mM args below meth cC aA ls qQ Z hR_ hlk hnm hK hT hA hQ G hl
  have hinX2 : ∀ w ∈ u_ws RX2 TX2 12, w ∈ wsX2_value := (fun _ h => List.mem_cons_of_mem _ (List.mem_append_right _ h))
  refine lv_iconst (v := nI 0) Z.1 Z.2.1 dX2_value_0 (by decide +kernel) ?_
  refine lv_istore_n (lv' := [(1, .int (nI 0)), (0, .ref (a 1))]) Z.1 Z.2.1 dX2_value_1 rfl hl (by decide) rfl (fun ls hl => ?_)
  refine lv_iconst (v := nI 0) Z.1 Z.2.1 dX2_value_2 (by decide +kernel) ?_
  refine lv_istore_n (lv' := [(2, .int (nI 0)), (1, .int (nI 0)), (0, .ref (a 1))]) Z.1 Z.2.1 dX2_value_3 rfl hl (by decide) rfl (fun ls hl => ?_)
  have L4 : ∀ (nN : Nat) (i : Nat) (st : List Int32) (stk1 : Nat → Int32) (f : Nat), sz - i < nN → (sz + 1 ≤ f + i) → (1 ≤ f) → (zl_run C X sz nm f i st = zl_ev C X sz nm) → (zl_rep stk1 st) → (st.length ≤ 128) → (i ≤ 10001) → ∀ (H : Heap) (locs : List Loc) (ls : Array Slot), zk_G D aA [(a 1, .inr (2, [.ref (a 10), .ref (a 11), .ref (a 12), .ref kc, .ref kv, .ref kn, .ref km, .int (nI sz), .int ns, .int (nI ln), .int at1, .int ft])), (a 10, .inl (g 0, 6, .inl nm)), (a 12, .inl (g 0, 128, .inl stk1)), (kc, .inl (g 0, 128, .inl (fun i => nI (C i)))), (kv, .inl (g 0, 128, .inl (fun i => nI (X i))))] sS H locs → lv_has ls 7 [(0, .ref (a 1)), (1, .int (nI st.length)), (2, .int (nI i))] → W pP l eE rm_X2_value sS mM args below meth cC H locs 0 0 qQ (F0 mM 4 ls []) := by
    intro nN
    induction nN with
    | zero => intros; omega
    | succ nN ih4 =>
      intro i st stk1 f hμ hf hf1 he hr hl2 hi H locs ls G hl
      have hs := hwf.1
      refine lv_iload_n Z.1 Z.2.1 dX2_value_4 rfl (lv_at hl 2 rfl) ?_
      refine lv_aload_n Z.1 Z.2.1 dX2_value_5 rfl (lv_at hl 0 rfl) ?_
      refine zk_get (C := RX2) (T := TX2) (N := 12) (ci := 2) Z hK G hinX2 0 rfl rfl 7 (by decide) (List.mem_of_getElem? (i := 1) rfl) rfl (v := .int (nI sz)) rfl dX2_value_6 ?_
      refine lv_icmp_ge (tgt := 207) Z.1 Z.2.1 dX2_value_9 (by decide) (fun c9 => ?_) (fun c9 => ?_)
      · have c9 : sz ≤ i := zk_le (by omega) (by omega) c9
        refine lv_iconst (v := nI 0) Z.1 Z.2.1 dX2_value_207 (by decide +kernel) ?_
        exact zk_reti Z hR_ hlk hK hQ G stk1 (by obtain ⟨f, rfl⟩ : ∃ f0, f = f0 + 1 := ⟨f - 1, by omega⟩; rw [zl_run_s, if_neg (Nat.not_lt.mpr c9)] at he; exact he) rfl dX2_value_208
      have c9 : i < sz := zk_nle (by omega) (by omega) c9
      obtain ⟨f, rfl⟩ : ∃ f0, f = f0 + 1 := ⟨f - 1, by omega⟩
      have hw := hwf.2 i c9
      rw [zl_run_s, if_pos c9] at he
      refine lv_aload_n Z.1 Z.2.1 dX2_value_12 rfl (lv_at hl 0 rfl) ?_
      refine zk_get (C := RX2) (T := TX2) (N := 12) (ci := 2) Z hK G hinX2 0 rfl rfl 3 (by decide) (List.mem_of_getElem? (i := 2) rfl) rfl (v := .ref kc) rfl dX2_value_13 ?_
      refine lv_iload_n Z.1 Z.2.1 dX2_value_16 rfl (lv_at hl 2 rfl) ?_
      refine zk_iald Z hK G 3 rfl (k := i) (by omega) (by decide) (v := nI (C i)) rfl dX2_value_17 ?_
      refine lv_istore_n (lv' := [(3, .int (nI (C i))), (0, .ref (a 1)), (1, .int (nI st.length)), (2, .int (nI i))]) Z.1 Z.2.1 dX2_value_18 rfl hl (by decide) rfl (fun ls hl => ?_)
      refine lv_aload_n Z.1 Z.2.1 dX2_value_19 rfl (lv_at hl 1 rfl) ?_
      refine zk_get (C := RX2) (T := TX2) (N := 12) (ci := 2) Z hK G hinX2 0 rfl rfl 4 (by decide) (List.mem_of_getElem? (i := 3) rfl) rfl (v := .ref kv) rfl dX2_value_20 ?_
      refine lv_iload_n Z.1 Z.2.1 dX2_value_23 rfl (lv_at hl 3 rfl) ?_
      refine zk_iald Z hK G 4 rfl (k := i) (by omega) (by decide) (v := nI (X i)) rfl dX2_value_24 ?_
      refine lv_istore (lv' := [(4, .int (nI (X i))), (3, .int (nI (C i))), (0, .ref (a 1)), (1, .int (nI st.length)), (2, .int (nI i))]) Z.1 Z.2.1 dX2_value_25 hl (by decide) rfl (fun ls hl => ?_)
      refine lv_iload_n Z.1 Z.2.1 dX2_value_27 rfl (lv_at hl 1 rfl) ?_
      refine lv_iconst (v := nI 1) Z.1 Z.2.1 dX2_value_28 (by decide +kernel) ?_
      refine lv_icmp_eq (tgt := 37) Z.1 Z.2.1 dX2_value_29 (by decide) (fun c29 => ?_) (fun c29 => ?_)
      · have c29 : C i = 1 := zk_eq (by omega) (by omega) c29
        refine lv_iload_n Z.1 Z.2.1 dX2_value_37 rfl (lv_at hl 3 rfl) ?_
        refine lv_sipush (v := nI 128) Z.1 Z.2.1 dX2_value_38 (by decide +kernel) ?_
        refine lv_icmp_ge (tgt := 59) Z.1 Z.2.1 dX2_value_41 (by decide) (fun c41 => ?_) (fun c41 => ?_)
        · have c41 : 128 ≤ st.length := zk_le (by omega) (by omega) c41
          refine lv_iconst (v := nI 0) Z.1 Z.2.1 dX2_value_59 (by decide +kernel) ?_
          exact zk_reti Z hR_ hlk hK hQ G stk1 (by rw [if_pos (Or.inl c29), if_pos c41] at he; exact he) rfl dX2_value_60
        have c41 : st.length < 128 := zk_nle (by omega) (by omega) c41
        refine lv_iload_n Z.1 Z.2.1 dX2_value_44 rfl (lv_at hl 1 rfl) ?_
        refine lv_iconst (v := nI 2) Z.1 Z.2.1 dX2_value_45 (by decide +kernel) ?_
        refine lv_icmp_ne (tgt := 61) Z.1 Z.2.1 dX2_value_46 (by decide) (fun c46 => ?_) (fun c46 => ?_)
        · have c46 : C i ≠ 2 := zk_neq (by omega) (by omega) c46
          refine lv_aload_n Z.1 Z.2.1 dX2_value_61 rfl (lv_at hl 2 rfl) ?_
          refine zk_get (C := RX2) (T := TX2) (N := 12) (ci := 2) Z hK G hinX2 0 rfl rfl 2 (by decide) (List.mem_of_getElem? (i := 5) rfl) rfl (v := .ref (a 12)) rfl dX2_value_62 ?_
          refine lv_iload_n Z.1 Z.2.1 dX2_value_65 rfl (lv_at hl 3 rfl) ?_
          refine lv_iload_n Z.1 Z.2.1 dX2_value_66 rfl (lv_at hl 1 rfl) ?_
          refine lv_iconst (v := nI 1) Z.1 Z.2.1 dX2_value_67 (by decide +kernel) ?_
          refine lv_icmp_ne (tgt := 76) Z.1 Z.2.1 dX2_value_68 (by decide) (fun c68 => ?_) (fun c68 => ?_)
          · exfalso
            have c68 : C i ≠ 1 := zk_neq (by omega) (by omega) c68
            omega
          have c68 : C i = 1 := zk_eq (by omega) (by omega) c68
          refine lv_iload Z.1 Z.2.1 dX2_value_71 (lv_at hl 0 rfl) ?_
          refine lv_goto (tgt := 83) Z.1 Z.2.1 dX2_value_73 (by decide) ?_
          refine zk_iast Z hK G 2 rfl (k := st.length) (by omega) (by decide) rfl (ws' := [(a 1, .inr (2, [.ref (a 10), .ref (a 11), .ref (a 12), .ref kc, .ref kv, .ref kn, .ref km, .int (nI sz), .int ns, .int (nI ln), .int at1, .int ft])), (a 10, .inl (g 0, 6, .inl nm)), (a 12, .inl (g 0, 128, .inl (upd stk1 st.length (nI (X i))))), (kc, .inl (g 0, 128, .inl (fun i => nI (C i)))), (kv, .inl (g 0, 128, .inl (fun i => nI (X i))))]) rfl dX2_value_83 (fun H locs G => ?_)
          refine lv_iinc (v := nI (st.length + 1)) (lv' := [(1, .int (nI (st.length + 1))), (4, .int (nI (X i))), (3, .int (nI (C i))), (0, .ref (a 1)), (2, .int (nI i))]) Z.1 Z.2.1 dX2_value_84 hl (k := 3) rfl (zk_inc st.length 1) (by decide) rfl (fun ls hl => ?_)
          refine lv_goto (tgt := 201) Z.1 Z.2.1 dX2_value_87 (by decide) ?_
          refine lv_iinc (v := nI (i + 1)) (lv' := [(2, .int (nI (i + 1))), (1, .int (nI (st.length + 1))), (4, .int (nI (X i))), (3, .int (nI (C i))), (0, .ref (a 1))]) Z.1 Z.2.1 dX2_value_201 hl (k := 4) rfl (zk_inc i 1) (by decide) rfl (fun ls hl => ?_)
          refine lv_goto (tgt := 4) Z.1 Z.2.1 dX2_value_204 (by decide) ?_
          exact ih4 (i + 1) ((nI (X i)) :: st) (upd stk1 st.length (nI (X i))) f (by omega) (by omega) (by omega) (by rw [if_pos (Or.inl c29), if_neg (Nat.not_le.mpr c41), if_pos c29] at he; exact he) (by exact zl_rep_push hr) (by show st.length + 1 ≤ 128; omega) (by omega) _ _ _ G (lv_sub hl [4, 1, 0] rfl)
        exfalso
        have c46 : C i = 2 := zk_eq (by omega) (by omega) c46
        omega
      have c29 : C i ≠ 1 := zk_neq (by omega) (by omega) c29
      refine lv_iload_n Z.1 Z.2.1 dX2_value_32 rfl (lv_at hl 1 rfl) ?_
      refine lv_iconst (v := nI 2) Z.1 Z.2.1 dX2_value_33 (by decide +kernel) ?_
      refine lv_icmp_ne (tgt := 90) Z.1 Z.2.1 dX2_value_34 (by decide) (fun c34 => ?_) (fun c34 => ?_)
      · have c34 : C i ≠ 2 := zk_neq (by omega) (by omega) c34
        refine lv_iload_n Z.1 Z.2.1 dX2_value_90 rfl (lv_at hl 3 rfl) ?_
        refine lv_iconst (v := nI 1) Z.1 Z.2.1 dX2_value_91 (by decide +kernel) ?_
        refine lv_icmp_ge (tgt := 97) Z.1 Z.2.1 dX2_value_92 (by decide) (fun c92 => ?_) (fun c92 => ?_)
        · have c92 : 1 ≤ st.length := zk_le (by omega) (by omega) c92
          have hno : ¬ (C i = 1 ∨ C i = 2) := fun q => q.elim c29 c34
          rw [if_neg hno] at he
          obtain ⟨y, r, rfl⟩ : ∃ y r, st = y :: r := by
            cases st with
            | nil => exact absurd c92 (by show ¬ 1 ≤ 0; omega)
            | cons y r => exact ⟨y, r, rfl⟩
          simp only [] at he
          have hl3 : r.length + 1 ≤ 128 := hl2
          have hl : lv_has ls 7 [(4, .int (nI (X i))), (3, .int (nI (C i))), (0, .ref (a 1)), (1, .int (nI (r.length + 1))), (2, .int (nI i))] := hl
          refine lv_iinc (v := nI r.length) (lv' := [(1, .int (nI r.length)), (4, .int (nI (X i))), (3, .int (nI (C i))), (0, .ref (a 1)), (2, .int (nI i))]) Z.1 Z.2.1 dX2_value_97 hl (k := 3) rfl (zk_dec0 _) (by decide) rfl (fun ls hl => ?_)
          refine lv_aload_n Z.1 Z.2.1 dX2_value_100 rfl (lv_at hl 3 rfl) ?_
          refine zk_get (C := RX2) (T := TX2) (N := 12) (ci := 2) Z hK G hinX2 0 rfl rfl 2 (by decide) (List.mem_of_getElem? (i := 5) rfl) rfl (v := .ref (a 12)) rfl dX2_value_101 ?_
          refine lv_iload_n Z.1 Z.2.1 dX2_value_104 rfl (lv_at hl 0 rfl) ?_
          refine zk_iald Z hK G 2 rfl (k := r.length) (by omega) (by decide) (v := y) hr.1 dX2_value_105 ?_
          refine lv_istore (lv' := [(5, .int y), (1, .int (nI r.length)), (4, .int (nI (X i))), (3, .int (nI (C i))), (0, .ref (a 1)), (2, .int (nI i))]) Z.1 Z.2.1 dX2_value_106 hl (by decide) rfl (fun ls hl => ?_)
          refine lv_iload_n Z.1 Z.2.1 dX2_value_108 rfl (lv_at hl 3 rfl) ?_
          refine lv_iconst (v := nI 4) Z.1 Z.2.1 dX2_value_109 (by decide +kernel) ?_
          refine lv_icmp_ne (tgt := 116) Z.1 Z.2.1 dX2_value_110 (by decide) (fun c110 => ?_) (fun c110 => ?_)
          · have c110 : C i ≠ 4 := zk_neq (by omega) (by omega) c110
            refine lv_iload_n Z.1 Z.2.1 dX2_value_116 rfl (lv_at hl 3 rfl) ?_
            refine lv_iconst (v := nI 3) Z.1 Z.2.1 dX2_value_117 (by decide +kernel) ?_
            refine lv_icmp_ne (tgt := 142) Z.1 Z.2.1 dX2_value_118 (by decide) (fun c118 => ?_) (fun c118 => ?_)
            · have c118 : C i ≠ 3 := zk_neq (by omega) (by omega) c118
              refine lv_iload_n Z.1 Z.2.1 dX2_value_142 rfl (lv_at hl 3 rfl) ?_
              refine lv_bipush (v := nI 6) Z.1 Z.2.1 dX2_value_143 (by decide +kernel) ?_
              refine lv_icmp_eq (tgt := 153) Z.1 Z.2.1 dX2_value_145 (by decide) (fun c145 => ?_) (fun c145 => ?_)
              · have c145 : C i = 6 := zk_eq (by omega) (by omega) c145
                refine lv_iconst (v := nI 1) Z.1 Z.2.1 dX2_value_153 (by decide +kernel) ?_
                refine lv_goto (tgt := 158) Z.1 Z.2.1 dX2_value_154 (by decide) ?_
                refine lv_istore (lv' := [(6, .int (nI 1)), (5, .int y), (1, .int (nI r.length)), (4, .int (nI (X i))), (3, .int (nI (C i))), (0, .ref (a 1)), (2, .int (nI i))]) Z.1 Z.2.1 dX2_value_158 hl (by decide) rfl (fun ls hl => ?_)
                refine lv_iload Z.1 Z.2.1 dX2_value_160 (lv_at hl 0 rfl) ?_
                refine lv_if_ne (tgt := 172) Z.1 Z.2.1 dX2_value_162 (by decide) (fun c162 => ?_) (fun c162 => ?_)
                · have c162 : 1 ≠ 0 := zk_neq (by omega) (by omega) c162
                  refine lv_iload Z.1 Z.2.1 dX2_value_172 (lv_at hl 0 rfl) ?_
                  refine lv_if_ne (tgt := 180) Z.1 Z.2.1 dX2_value_174 (by decide) (fun c174 => ?_) (fun c174 => ?_)
                  · have c174 : 1 ≠ 0 := zk_neq (by omega) (by omega) c174
                    refine lv_aload_n Z.1 Z.2.1 dX2_value_180 rfl (lv_at hl 5 rfl) ?_
                    refine zk_get (C := RX2) (T := TX2) (N := 12) (ci := 2) Z hK G hinX2 0 rfl rfl 2 (by decide) (List.mem_of_getElem? (i := 5) rfl) rfl (v := .ref (a 12)) rfl dX2_value_181 ?_
                    refine lv_iload_n Z.1 Z.2.1 dX2_value_184 rfl (lv_at hl 2 rfl) ?_
                    refine lv_iload_n Z.1 Z.2.1 dX2_value_185 rfl (lv_at hl 4 rfl) ?_
                    refine lv_aload_n Z.1 Z.2.1 dX2_value_186 rfl (lv_at hl 5 rfl) ?_
                    refine zk_get (C := RX2) (T := TX2) (N := 12) (ci := 2) Z hK G hinX2 0 rfl rfl 2 (by decide) (List.mem_of_getElem? (i := 5) rfl) rfl (v := .ref (a 12)) rfl dX2_value_187 ?_
                    refine lv_iload_n Z.1 Z.2.1 dX2_value_190 rfl (lv_at hl 2 rfl) ?_
                    refine zk_iald Z hK G 2 rfl (k := r.length) (by omega) (by decide) (v := y) hr.1 dX2_value_191 ?_
                    refine lv_iload Z.1 Z.2.1 dX2_value_192 (lv_at hl 1 rfl) ?_
                    refine zk_ci (WF := fun (_ : Unit) => [(a 1, .inr (2, [.ref (a 10), .ref (a 11), .ref (a 12), .ref kc, .ref kv, .ref kn, .ref km, .int (nI sz), .int ns, .int (nI ln), .int at1, .int ft])), (a 10, .inl (g 0, 6, .inl nm)), (a 12, .inl (g 0, 128, .inl stk1)), (kc, .inl (g 0, 128, .inl (fun i => nI (C i)))), (kv, .inl (g 0, 128, .inl (fun i => nI (X i))))]) (wr := [(a 1, .inr (2, [.ref (a 10), .ref (a 11), .ref (a 12), .ref kc, .ref kv, .ref kn, .ref km, .int (nI sz), .int ns, .int (nI ln), .int at1, .int ft])), (a 10, .inl (g 0, 6, .inl nm)), (a 12, .inl (g 0, 128, .inl stk1)), (kc, .inl (g 0, 128, .inl (fun i => nI (C i)))), (kv, .inl (g 0, 128, .inl (fun i => nI (X i))))]) ⟨rfl, rfl⟩ (zk_rs (As := [.int (nI (C i)), .int y, .int y]) (rest := [.int (nI r.length), .ref (a 12)]) Z ((ct_X2_workOut l D g τ (C i) y y (by omega)) H.size) hK hT hA G [] rfl (by decide) gX2_value_X2_workOut rfl dvX2_workOut ⟨by decide, by decide⟩ rfl hl.1 rfl (Nat.le_of_ble_eq_true rfl) dX2_value_194 ⟨Nat.zero_le _, Nat.zero_le _⟩) hA G [] [0, 1, 2, 3, 4] [0, 1, 2, 3, 4] rfl rfl (by decide) (by decide) (by decide) (fun _ => rfl) (fun r_194 _ H locs w_194 G => ?_)
                    obtain rfl : r_194 = zl_op (C i) y y := w_194
                    refine zk_iast Z hK G 2 rfl (k := r.length) (by omega) (by decide) rfl (ws' := [(a 1, .inr (2, [.ref (a 10), .ref (a 11), .ref (a 12), .ref kc, .ref kv, .ref kn, .ref km, .int (nI sz), .int ns, .int (nI ln), .int at1, .int ft])), (a 10, .inl (g 0, 6, .inl nm)), (a 12, .inl (g 0, 128, .inl (upd stk1 r.length (zl_op (C i) y y)))), (kc, .inl (g 0, 128, .inl (fun i => nI (C i)))), (kv, .inl (g 0, 128, .inl (fun i => nI (X i))))]) rfl dX2_value_197 (fun H locs G => ?_)
                    refine lv_iinc (v := nI (r.length + 1)) (lv' := [(1, .int (nI (r.length + 1))), (6, .int (nI 1)), (5, .int y), (4, .int (nI (X i))), (3, .int (nI (C i))), (0, .ref (a 1)), (2, .int (nI i))]) Z.1 Z.2.1 dX2_value_198 hl (k := 2) rfl (zk_inc r.length 1) (by decide) rfl (fun ls hl => ?_)
                    refine lv_iinc (v := nI (i + 1)) (lv' := [(2, .int (nI (i + 1))), (1, .int (nI (r.length + 1))), (6, .int (nI 1)), (5, .int y), (4, .int (nI (X i))), (3, .int (nI (C i))), (0, .ref (a 1))]) Z.1 Z.2.1 dX2_value_201 hl (k := 6) rfl (zk_inc i 1) (by decide) rfl (fun ls hl => ?_)
                    refine lv_goto (tgt := 4) Z.1 Z.2.1 dX2_value_204 (by decide) ?_
                    exact ih4 (i + 1) (zl_op (C i) y y :: r) (upd stk1 r.length (zl_op (C i) y y)) f (by omega) (by omega) (by omega) (by rw [if_neg c110, if_neg c118, if_pos (Or.inl c145)] at he; exact he) (by exact zl_rep_push hr.2) (by show r.length + 1 ≤ 128; omega) (by omega) _ _ _ G (lv_sub hl [6, 1, 0] rfl)
                  exfalso
                  have c174 : 1 = 0 := zk_eq (by omega) (by omega) c174
                  omega
                exfalso
                have c162 : 1 = 0 := zk_eq (by omega) (by omega) c162
                omega
              have c145 : C i ≠ 6 := zk_neq (by omega) (by omega) c145
              refine lv_iload_n Z.1 Z.2.1 dX2_value_148 rfl (lv_at hl 3 rfl) ?_
              refine lv_iconst (v := nI 5) Z.1 Z.2.1 dX2_value_149 (by decide +kernel) ?_
              refine lv_icmp_ne (tgt := 157) Z.1 Z.2.1 dX2_value_150 (by decide) (fun c150 => ?_) (fun c150 => ?_)
              · have c150 : C i ≠ 5 := zk_neq (by omega) (by omega) c150
                refine lv_iconst (v := nI 0) Z.1 Z.2.1 dX2_value_157 (by decide +kernel) ?_
                refine lv_istore (lv' := [(6, .int (nI 0)), (5, .int y), (1, .int (nI r.length)), (4, .int (nI (X i))), (3, .int (nI (C i))), (0, .ref (a 1)), (2, .int (nI i))]) Z.1 Z.2.1 dX2_value_158 hl (by decide) rfl (fun ls hl => ?_)
                refine lv_iload Z.1 Z.2.1 dX2_value_160 (lv_at hl 0 rfl) ?_
                refine lv_if_ne (tgt := 172) Z.1 Z.2.1 dX2_value_162 (by decide) (fun c162 => ?_) (fun c162 => ?_)
                · exfalso
                  have c162 : 0 ≠ 0 := zk_neq (by omega) (by omega) c162
                  omega
                have c162 : 0 = 0 := zk_eq (by omega) (by omega) c162
                refine lv_iload_n Z.1 Z.2.1 dX2_value_165 rfl (lv_at hl 2 rfl) ?_
                refine lv_iconst (v := nI 1) Z.1 Z.2.1 dX2_value_166 (by decide +kernel) ?_
                refine lv_icmp_ge (tgt := 172) Z.1 Z.2.1 dX2_value_167 (by decide) (fun c167 => ?_) (fun c167 => ?_)
                · have c167 : 1 ≤ r.length := zk_le (by omega) (by omega) c167
                  refine lv_iload Z.1 Z.2.1 dX2_value_172 (lv_at hl 0 rfl) ?_
                  refine lv_if_ne (tgt := 180) Z.1 Z.2.1 dX2_value_174 (by decide) (fun c174 => ?_) (fun c174 => ?_)
                  · exfalso
                    have c174 : 0 ≠ 0 := zk_neq (by omega) (by omega) c174
                    omega
                  have c174 : 0 = 0 := zk_eq (by omega) (by omega) c174
                  rw [if_neg c110, if_neg c118, if_neg (fun q => q.elim c145 c150)] at he
                  obtain ⟨x, q, rfl⟩ : ∃ x q, r = x :: q := by
                    cases r with
                    | nil => exact absurd c167 (by show ¬ 1 ≤ 0; omega)
                    | cons x q => exact ⟨x, q, rfl⟩
                  simp only [] at he
                  have hl4 : q.length + 1 + 1 ≤ 128 := hl3
                  have hl : lv_has ls 7 [(6, .int (nI 0)), (5, .int y), (1, .int (nI (q.length + 1))), (4, .int (nI (X i))), (3, .int (nI (C i))), (0, .ref (a 1)), (2, .int (nI i))] := hl
                  refine lv_iinc (v := nI q.length) (lv' := [(1, .int (nI q.length)), (6, .int (nI 0)), (5, .int y), (4, .int (nI (X i))), (3, .int (nI (C i))), (0, .ref (a 1)), (2, .int (nI i))]) Z.1 Z.2.1 dX2_value_177 hl (k := 2) rfl (zk_dec0 _) (by decide) rfl (fun ls hl => ?_)
                  refine lv_aload_n Z.1 Z.2.1 dX2_value_180 rfl (lv_at hl 5 rfl) ?_
                  refine zk_get (C := RX2) (T := TX2) (N := 12) (ci := 2) Z hK G hinX2 0 rfl rfl 2 (by decide) (List.mem_of_getElem? (i := 5) rfl) rfl (v := .ref (a 12)) rfl dX2_value_181 ?_
                  refine lv_iload_n Z.1 Z.2.1 dX2_value_184 rfl (lv_at hl 0 rfl) ?_
                  refine lv_iload_n Z.1 Z.2.1 dX2_value_185 rfl (lv_at hl 4 rfl) ?_
                  refine lv_aload_n Z.1 Z.2.1 dX2_value_186 rfl (lv_at hl 5 rfl) ?_
                  refine zk_get (C := RX2) (T := TX2) (N := 12) (ci := 2) Z hK G hinX2 0 rfl rfl 2 (by decide) (List.mem_of_getElem? (i := 5) rfl) rfl (v := .ref (a 12)) rfl dX2_value_187 ?_
                  refine lv_iload_n Z.1 Z.2.1 dX2_value_190 rfl (lv_at hl 0 rfl) ?_
                  refine zk_iald Z hK G 2 rfl (k := q.length) (by omega) (by decide) (v := x) hr.2.1 dX2_value_191 ?_
                  refine lv_iload Z.1 Z.2.1 dX2_value_192 (lv_at hl 2 rfl) ?_
                  refine zk_ci (WF := fun (_ : Unit) => [(a 1, .inr (2, [.ref (a 10), .ref (a 11), .ref (a 12), .ref kc, .ref kv, .ref kn, .ref km, .int (nI sz), .int ns, .int (nI ln), .int at1, .int ft])), (a 10, .inl (g 0, 6, .inl nm)), (a 12, .inl (g 0, 128, .inl stk1)), (kc, .inl (g 0, 128, .inl (fun i => nI (C i)))), (kv, .inl (g 0, 128, .inl (fun i => nI (X i))))]) (wr := [(a 1, .inr (2, [.ref (a 10), .ref (a 11), .ref (a 12), .ref kc, .ref kv, .ref kn, .ref km, .int (nI sz), .int ns, .int (nI ln), .int at1, .int ft])), (a 10, .inl (g 0, 6, .inl nm)), (a 12, .inl (g 0, 128, .inl stk1)), (kc, .inl (g 0, 128, .inl (fun i => nI (C i)))), (kv, .inl (g 0, 128, .inl (fun i => nI (X i))))]) ⟨rfl, rfl⟩ (zk_rs (As := [.int (nI (C i)), .int x, .int y]) (rest := [.int (nI q.length), .ref (a 12)]) Z ((ct_X2_workOut l D g τ (C i) x y (by omega)) H.size) hK hT hA G [] rfl (by decide) gX2_value_X2_workOut rfl dvX2_workOut ⟨by decide, by decide⟩ rfl hl.1 rfl (Nat.le_of_ble_eq_true rfl) dX2_value_194 ⟨Nat.zero_le _, Nat.zero_le _⟩) hA G [] [0, 1, 2, 3, 4] [0, 1, 2, 3, 4] rfl rfl (by decide) (by decide) (by decide) (fun _ => rfl) (fun r_194 _ H locs w_194 G => ?_)
                  obtain rfl : r_194 = zl_op (C i) x y := w_194
                  refine zk_iast Z hK G 2 rfl (k := q.length) (by omega) (by decide) rfl (ws' := [(a 1, .inr (2, [.ref (a 10), .ref (a 11), .ref (a 12), .ref kc, .ref kv, .ref kn, .ref km, .int (nI sz), .int ns, .int (nI ln), .int at1, .int ft])), (a 10, .inl (g 0, 6, .inl nm)), (a 12, .inl (g 0, 128, .inl (upd stk1 q.length (zl_op (C i) x y)))), (kc, .inl (g 0, 128, .inl (fun i => nI (C i)))), (kv, .inl (g 0, 128, .inl (fun i => nI (X i))))]) rfl dX2_value_197 (fun H locs G => ?_)
                  refine lv_iinc (v := nI (q.length + 1)) (lv' := [(1, .int (nI (q.length + 1))), (6, .int (nI 0)), (5, .int y), (4, .int (nI (X i))), (3, .int (nI (C i))), (0, .ref (a 1)), (2, .int (nI i))]) Z.1 Z.2.1 dX2_value_198 hl (k := 0) rfl (zk_inc q.length 1) (by decide) rfl (fun ls hl => ?_)
                  refine lv_iinc (v := nI (i + 1)) (lv' := [(2, .int (nI (i + 1))), (1, .int (nI (q.length + 1))), (6, .int (nI 0)), (5, .int y), (4, .int (nI (X i))), (3, .int (nI (C i))), (0, .ref (a 1))]) Z.1 Z.2.1 dX2_value_201 hl (k := 6) rfl (zk_inc i 1) (by decide) rfl (fun ls hl => ?_)
                  refine lv_goto (tgt := 4) Z.1 Z.2.1 dX2_value_204 (by decide) ?_
                  exact ih4 (i + 1) (zl_op (C i) x y :: q) (upd stk1 q.length (zl_op (C i) x y)) f (by omega) (by omega) (by omega) (by exact he) (by exact zl_rep_push hr.2.2) (by show q.length + 1 ≤ 128; omega) (by omega) _ _ _ G (lv_sub hl [6, 1, 0] rfl)
                have c167 : r.length < 1 := zk_nle (by omega) (by omega) c167
                refine lv_iconst (v := nI 0) Z.1 Z.2.1 dX2_value_170 (by decide +kernel) ?_
                exact zk_reti Z hR_ hlk hK hQ G stk1 (by rw [if_neg c110, if_neg c118, if_neg (fun q => q.elim c145 c150)] at he; cases r with | nil => exact he | cons x q => exact absurd c167 (by show ¬ q.length + 1 < 1; omega)) rfl dX2_value_171
              have c150 : C i = 5 := zk_eq (by omega) (by omega) c150
              refine lv_iconst (v := nI 1) Z.1 Z.2.1 dX2_value_153 (by decide +kernel) ?_
              refine lv_goto (tgt := 158) Z.1 Z.2.1 dX2_value_154 (by decide) ?_
              refine lv_istore (lv' := [(6, .int (nI 1)), (5, .int y), (1, .int (nI r.length)), (4, .int (nI (X i))), (3, .int (nI (C i))), (0, .ref (a 1)), (2, .int (nI i))]) Z.1 Z.2.1 dX2_value_158 hl (by decide) rfl (fun ls hl => ?_)
              refine lv_iload Z.1 Z.2.1 dX2_value_160 (lv_at hl 0 rfl) ?_
              refine lv_if_ne (tgt := 172) Z.1 Z.2.1 dX2_value_162 (by decide) (fun c162 => ?_) (fun c162 => ?_)
              · have c162 : 1 ≠ 0 := zk_neq (by omega) (by omega) c162
                refine lv_iload Z.1 Z.2.1 dX2_value_172 (lv_at hl 0 rfl) ?_
                refine lv_if_ne (tgt := 180) Z.1 Z.2.1 dX2_value_174 (by decide) (fun c174 => ?_) (fun c174 => ?_)
                · have c174 : 1 ≠ 0 := zk_neq (by omega) (by omega) c174
                  refine lv_aload_n Z.1 Z.2.1 dX2_value_180 rfl (lv_at hl 5 rfl) ?_
                  refine zk_get (C := RX2) (T := TX2) (N := 12) (ci := 2) Z hK G hinX2 0 rfl rfl 2 (by decide) (List.mem_of_getElem? (i := 5) rfl) rfl (v := .ref (a 12)) rfl dX2_value_181 ?_
                  refine lv_iload_n Z.1 Z.2.1 dX2_value_184 rfl (lv_at hl 2 rfl) ?_
                  refine lv_iload_n Z.1 Z.2.1 dX2_value_185 rfl (lv_at hl 4 rfl) ?_
                  refine lv_aload_n Z.1 Z.2.1 dX2_value_186 rfl (lv_at hl 5 rfl) ?_
                  refine zk_get (C := RX2) (T := TX2) (N := 12) (ci := 2) Z hK G hinX2 0 rfl rfl 2 (by decide) (List.mem_of_getElem? (i := 5) rfl) rfl (v := .ref (a 12)) rfl dX2_value_187 ?_
                  refine lv_iload_n Z.1 Z.2.1 dX2_value_190 rfl (lv_at hl 2 rfl) ?_
                  refine zk_iald Z hK G 2 rfl (k := r.length) (by omega) (by decide) (v := y) hr.1 dX2_value_191 ?_
                  refine lv_iload Z.1 Z.2.1 dX2_value_192 (lv_at hl 1 rfl) ?_
                  refine zk_ci (WF := fun (_ : Unit) => [(a 1, .inr (2, [.ref (a 10), .ref (a 11), .ref (a 12), .ref kc, .ref kv, .ref kn, .ref km, .int (nI sz), .int ns, .int (nI ln), .int at1, .int ft])), (a 10, .inl (g 0, 6, .inl nm)), (a 12, .inl (g 0, 128, .inl stk1)), (kc, .inl (g 0, 128, .inl (fun i => nI (C i)))), (kv, .inl (g 0, 128, .inl (fun i => nI (X i))))]) (wr := [(a 1, .inr (2, [.ref (a 10), .ref (a 11), .ref (a 12), .ref kc, .ref kv, .ref kn, .ref km, .int (nI sz), .int ns, .int (nI ln), .int at1, .int ft])), (a 10, .inl (g 0, 6, .inl nm)), (a 12, .inl (g 0, 128, .inl stk1)), (kc, .inl (g 0, 128, .inl (fun i => nI (C i)))), (kv, .inl (g 0, 128, .inl (fun i => nI (X i))))]) ⟨rfl, rfl⟩ (zk_rs (As := [.int (nI (C i)), .int y, .int y]) (rest := [.int (nI r.length), .ref (a 12)]) Z ((ct_X2_workOut l D g τ (C i) y y (by omega)) H.size) hK hT hA G [] rfl (by decide) gX2_value_X2_workOut rfl dvX2_workOut ⟨by decide, by decide⟩ rfl hl.1 rfl (Nat.le_of_ble_eq_true rfl) dX2_value_194 ⟨Nat.zero_le _, Nat.zero_le _⟩) hA G [] [0, 1, 2, 3, 4] [0, 1, 2, 3, 4] rfl rfl (by decide) (by decide) (by decide) (fun _ => rfl) (fun r_194 _ H locs w_194 G => ?_)
                  obtain rfl : r_194 = zl_op (C i) y y := w_194
                  refine zk_iast Z hK G 2 rfl (k := r.length) (by omega) (by decide) rfl (ws' := [(a 1, .inr (2, [.ref (a 10), .ref (a 11), .ref (a 12), .ref kc, .ref kv, .ref kn, .ref km, .int (nI sz), .int ns, .int (nI ln), .int at1, .int ft])), (a 10, .inl (g 0, 6, .inl nm)), (a 12, .inl (g 0, 128, .inl (upd stk1 r.length (zl_op (C i) y y)))), (kc, .inl (g 0, 128, .inl (fun i => nI (C i)))), (kv, .inl (g 0, 128, .inl (fun i => nI (X i))))]) rfl dX2_value_197 (fun H locs G => ?_)
                  refine lv_iinc (v := nI (r.length + 1)) (lv' := [(1, .int (nI (r.length + 1))), (6, .int (nI 1)), (5, .int y), (4, .int (nI (X i))), (3, .int (nI (C i))), (0, .ref (a 1)), (2, .int (nI i))]) Z.1 Z.2.1 dX2_value_198 hl (k := 2) rfl (zk_inc r.length 1) (by decide) rfl (fun ls hl => ?_)
                  refine lv_iinc (v := nI (i + 1)) (lv' := [(2, .int (nI (i + 1))), (1, .int (nI (r.length + 1))), (6, .int (nI 1)), (5, .int y), (4, .int (nI (X i))), (3, .int (nI (C i))), (0, .ref (a 1))]) Z.1 Z.2.1 dX2_value_201 hl (k := 6) rfl (zk_inc i 1) (by decide) rfl (fun ls hl => ?_)
                  refine lv_goto (tgt := 4) Z.1 Z.2.1 dX2_value_204 (by decide) ?_
                  exact ih4 (i + 1) (zl_op (C i) y y :: r) (upd stk1 r.length (zl_op (C i) y y)) f (by omega) (by omega) (by omega) (by rw [if_neg c110, if_neg c118, if_pos (Or.inr c150)] at he; exact he) (by exact zl_rep_push hr.2) (by show r.length + 1 ≤ 128; omega) (by omega) _ _ _ G (lv_sub hl [6, 1, 0] rfl)
                exfalso
                have c174 : 1 = 0 := zk_eq (by omega) (by omega) c174
                omega
              exfalso
              have c162 : 1 = 0 := zk_eq (by omega) (by omega) c162
              omega
            have c118 : C i = 3 := zk_eq (by omega) (by omega) c118
            refine lv_iload Z.1 Z.2.1 dX2_value_121 (lv_at hl 0 rfl) ?_
            refine lv_if_ne (tgt := 137) Z.1 Z.2.1 dX2_value_123 (by decide) (fun c123 => ?_) (fun c123 => ?_)
            · have c123 : ¬ y = 0 := c123
              refine lv_iload_n Z.1 Z.2.1 dX2_value_137 rfl (lv_at hl 5 rfl) ?_
              refine lv_istore_n (lv' := [(2, .int (nI i)), (5, .int y), (1, .int (nI r.length)), (4, .int (nI (X i))), (3, .int (nI (C i))), (0, .ref (a 1))]) Z.1 Z.2.1 dX2_value_138 rfl hl (by decide) rfl (fun ls hl => ?_)
              refine lv_goto (tgt := 201) Z.1 Z.2.1 dX2_value_139 (by decide) ?_
              refine lv_iinc (v := nI (i + 1)) (lv' := [(2, .int (nI (i + 1))), (5, .int y), (1, .int (nI r.length)), (4, .int (nI (X i))), (3, .int (nI (C i))), (0, .ref (a 1))]) Z.1 Z.2.1 dX2_value_201 hl (k := 0) rfl (zk_inc i 1) (by decide) rfl (fun ls hl => ?_)
              refine lv_goto (tgt := 4) Z.1 Z.2.1 dX2_value_204 (by decide) ?_
              exact ih4 (i + 1) r stk1 f (by omega) (by omega) (by omega) (by rw [if_neg c110, if_pos c118, if_neg c123] at he; exact he) (by exact hr.2) (by omega) (by omega) _ _ _ G (lv_sub hl [5, 2, 0] rfl)
            have c123 : y = 0 := c123
            refine lv_iload_n Z.1 Z.2.1 dX2_value_126 rfl (lv_at hl 5 rfl) ?_
            refine lv_iload Z.1 Z.2.1 dX2_value_127 (lv_at hl 2 rfl) ?_
            refine lv_iconst (v := nI 1) Z.1 Z.2.1 dX2_value_129 (by decide +kernel) ?_
            refine zk_isub Z dX2_value_130 (z := nI (X i) - nI 1) rfl ?_
            refine zk_max Z hl.1 (List.mem_of_getElem? (i := 6) rfl) (List.mem_of_getElem? (i := 7) rfl) (List.mem_of_getElem? (i := 8) rfl) (List.mem_of_getElem? (i := 9) rfl) (by decide) (by decide) (Nat.zero_le _) (Nat.zero_le _) (z := nI (max i (X i - 1))) (zl_max (by omega) (by omega)) dX2_value_131 ?_
            refine lv_goto (tgt := 138) Z.1 Z.2.1 dX2_value_134 (by decide) ?_
            refine lv_istore_n (lv' := [(2, .int (nI (max i (X i - 1)))), (5, .int y), (1, .int (nI r.length)), (4, .int (nI (X i))), (3, .int (nI (C i))), (0, .ref (a 1))]) Z.1 Z.2.1 dX2_value_138 rfl hl (by decide) rfl (fun ls hl => ?_)
            refine lv_goto (tgt := 201) Z.1 Z.2.1 dX2_value_139 (by decide) ?_
            refine lv_iinc (v := nI ((max i (X i - 1)) + 1)) (lv' := [(2, .int (nI ((max i (X i - 1)) + 1))), (5, .int y), (1, .int (nI r.length)), (4, .int (nI (X i))), (3, .int (nI (C i))), (0, .ref (a 1))]) Z.1 Z.2.1 dX2_value_201 hl (k := 0) rfl (zk_inc (max i (X i - 1)) 1) (by decide) rfl (fun ls hl => ?_)
            refine lv_goto (tgt := 4) Z.1 Z.2.1 dX2_value_204 (by decide) ?_
            exact ih4 ((max i (X i - 1)) + 1) r stk1 f (by omega) (by omega) (by omega) (by rw [if_neg c110, if_pos c118, if_pos c123] at he; exact he) (by exact hr.2) (by omega) (by omega) _ _ _ G (lv_sub hl [5, 2, 0] rfl)
          have c110 : C i = 4 := zk_eq (by omega) (by omega) c110
          refine lv_iload Z.1 Z.2.1 dX2_value_113 (lv_at hl 0 rfl) ?_
          exact zk_reti Z hR_ hlk hK hQ G stk1 (by rw [if_pos c110] at he; exact he) rfl dX2_value_115
        have c92 : st.length < 1 := zk_nle (by omega) (by omega) c92
        refine lv_iconst (v := nI 0) Z.1 Z.2.1 dX2_value_95 (by decide +kernel) ?_
        exact zk_reti Z hR_ hlk hK hQ G stk1 (by rw [if_neg (fun q => q.elim c29 c34)] at he; cases st with | nil => exact he | cons y r => exact absurd c92 (by show ¬ r.length + 1 < 1; omega)) rfl dX2_value_96
      have c34 : C i = 2 := zk_eq (by omega) (by omega) c34
      refine lv_iload_n Z.1 Z.2.1 dX2_value_37 rfl (lv_at hl 3 rfl) ?_
      refine lv_sipush (v := nI 128) Z.1 Z.2.1 dX2_value_38 (by decide +kernel) ?_
      refine lv_icmp_ge (tgt := 59) Z.1 Z.2.1 dX2_value_41 (by decide) (fun c41 => ?_) (fun c41 => ?_)
      · have c41 : 128 ≤ st.length := zk_le (by omega) (by omega) c41
        refine lv_iconst (v := nI 0) Z.1 Z.2.1 dX2_value_59 (by decide +kernel) ?_
        exact zk_reti Z hR_ hlk hK hQ G stk1 (by rw [if_pos (Or.inr c34), if_pos c41] at he; exact he) rfl dX2_value_60
      have c41 : st.length < 128 := zk_nle (by omega) (by omega) c41
      refine lv_iload_n Z.1 Z.2.1 dX2_value_44 rfl (lv_at hl 1 rfl) ?_
      refine lv_iconst (v := nI 2) Z.1 Z.2.1 dX2_value_45 (by decide +kernel) ?_
      refine lv_icmp_ne (tgt := 61) Z.1 Z.2.1 dX2_value_46 (by decide) (fun c46 => ?_) (fun c46 => ?_)
      · exfalso
        have c46 : C i ≠ 2 := zk_neq (by omega) (by omega) c46
        omega
      have c46 : C i = 2 := zk_eq (by omega) (by omega) c46
      refine lv_iload Z.1 Z.2.1 dX2_value_49 (lv_at hl 0 rfl) ?_
      refine lv_aload_n Z.1 Z.2.1 dX2_value_51 rfl (lv_at hl 2 rfl) ?_
      refine zk_get (C := RX2) (T := TX2) (N := 12) (ci := 2) Z hK G hinX2 0 rfl rfl 0 (by decide) (List.mem_of_getElem? (i := 4) rfl) rfl (v := .ref (a 10)) rfl dX2_value_52 ?_
      refine zk_alen Z hK G 1 0 rfl rfl (v := nI 6) rfl dX2_value_55 ?_
      refine lv_icmp_lt (tgt := 61) Z.1 Z.2.1 dX2_value_56 (by decide) (fun c56 => ?_) (fun c56 => ?_)
      · have c56 : X i < 6 := zk_lt (by omega) (by omega) c56
        refine lv_aload_n Z.1 Z.2.1 dX2_value_61 rfl (lv_at hl 2 rfl) ?_
        refine zk_get (C := RX2) (T := TX2) (N := 12) (ci := 2) Z hK G hinX2 0 rfl rfl 2 (by decide) (List.mem_of_getElem? (i := 5) rfl) rfl (v := .ref (a 12)) rfl dX2_value_62 ?_
        refine lv_iload_n Z.1 Z.2.1 dX2_value_65 rfl (lv_at hl 3 rfl) ?_
        refine lv_iload_n Z.1 Z.2.1 dX2_value_66 rfl (lv_at hl 1 rfl) ?_
        refine lv_iconst (v := nI 1) Z.1 Z.2.1 dX2_value_67 (by decide +kernel) ?_
        refine lv_icmp_ne (tgt := 76) Z.1 Z.2.1 dX2_value_68 (by decide) (fun c68 => ?_) (fun c68 => ?_)
        · have c68 : C i ≠ 1 := zk_neq (by omega) (by omega) c68
          refine lv_aload_n Z.1 Z.2.1 dX2_value_76 rfl (lv_at hl 2 rfl) ?_
          refine zk_get (C := RX2) (T := TX2) (N := 12) (ci := 2) Z hK G hinX2 0 rfl rfl 0 (by decide) (List.mem_of_getElem? (i := 4) rfl) rfl (v := .ref (a 10)) rfl dX2_value_77 ?_
          refine lv_iload Z.1 Z.2.1 dX2_value_80 (lv_at hl 0 rfl) ?_
          refine zk_iald Z hK G 1 rfl (k := X i) (by omega) (by decide) (v := nm (X i)) rfl dX2_value_82 ?_
          refine zk_iast Z hK G 2 rfl (k := st.length) (by omega) (by decide) rfl (ws' := [(a 1, .inr (2, [.ref (a 10), .ref (a 11), .ref (a 12), .ref kc, .ref kv, .ref kn, .ref km, .int (nI sz), .int ns, .int (nI ln), .int at1, .int ft])), (a 10, .inl (g 0, 6, .inl nm)), (a 12, .inl (g 0, 128, .inl (upd stk1 st.length (nm (X i))))), (kc, .inl (g 0, 128, .inl (fun i => nI (C i)))), (kv, .inl (g 0, 128, .inl (fun i => nI (X i))))]) rfl dX2_value_83 (fun H locs G => ?_)
          refine lv_iinc (v := nI (st.length + 1)) (lv' := [(1, .int (nI (st.length + 1))), (4, .int (nI (X i))), (3, .int (nI (C i))), (0, .ref (a 1)), (2, .int (nI i))]) Z.1 Z.2.1 dX2_value_84 hl (k := 3) rfl (zk_inc st.length 1) (by decide) rfl (fun ls hl => ?_)
          refine lv_goto (tgt := 201) Z.1 Z.2.1 dX2_value_87 (by decide) ?_
          refine lv_iinc (v := nI (i + 1)) (lv' := [(2, .int (nI (i + 1))), (1, .int (nI (st.length + 1))), (4, .int (nI (X i))), (3, .int (nI (C i))), (0, .ref (a 1))]) Z.1 Z.2.1 dX2_value_201 hl (k := 4) rfl (zk_inc i 1) (by decide) rfl (fun ls hl => ?_)
          refine lv_goto (tgt := 4) Z.1 Z.2.1 dX2_value_204 (by decide) ?_
          exact ih4 (i + 1) ((nm (X i)) :: st) (upd stk1 st.length (nm (X i))) f (by omega) (by omega) (by omega) (by rw [if_pos (Or.inr c34), if_neg (Nat.not_le.mpr c41), if_neg c29] at he; exact he) (by exact zl_rep_push hr) (by show st.length + 1 ≤ 128; omega) (by omega) _ _ _ G (lv_sub hl [4, 1, 0] rfl)
        exfalso
        have c68 : C i = 1 := zk_eq (by omega) (by omega) c68
        omega
      exfalso
      have c56 : 6 ≤ X i := zk_nlt (by omega) (by omega) c56
      exact absurd (hw.2.2 c34) (by omega)
  exact L4 _ 0 ([]) stk (sz + 1) (Nat.lt_succ_self _) (by omega) (by omega) (by rfl) (by trivial) (by exact Nat.zero_le _) (by omega) _ _ _ G (lv_sub hl [2, 1, 0] rfl)

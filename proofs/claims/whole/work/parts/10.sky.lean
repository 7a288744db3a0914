abbrev rm_X7_left : Room := { frames := 0, cells := 0, slots := 0, locals := 0 }
theorem dvX7_left : zk_dv yX7_left RX7 2 := by decide +kernel
set_option maxRecDepth 100000 in
set_option maxHeartbeats 4000000 in
/-- left: what is left -/
theorem ct_X7_left (l : Launch) (D : va_G) (g : Nat → ClassId) (τ : Nat → Nat) (t : Nat) (b : Nat) (hb : 1 ≤ b) (hb2 : b < 2 ^ 31) (ht : t < 2 ^ 31) : zk_MI l D g τ yX7_left wsX7_left rm_X7_left [.int (nI t), .int (nI b)] [] (fun (r : Int32) (_ : Unit) => r = nI (t % b)) (fun (_ : Unit) => []) := by
  refine zk_of (Qc := fun A => va_Qi (fun (r : Int32) (_ : Unit) => r = nI (t % b)) (zk_B D g A (fun (_ : Unit) => [])) A) (cc := cX7_left) (maxL := 2) (ret := (some .int)) (own := RX7) (by decide) rfl rfl (Nat.le_of_ble_eq_true rfl) ?_
  intro pP eE sS mM args below meth cC aA ls qQ Z hR_ hlk hnm hK hT hA hQ G hl
  refine lv_iload_n Z.1 Z.2.1 dX7_left_0 rfl (lv_at hl 1 rfl) ?_
  refine lv_iconst (v := nI 1) Z.1 Z.2.1 dX7_left_1 (by decide +kernel) ?_
  refine lv_icmp_ge (tgt := 9) Z.1 Z.2.1 dX7_left_2 (by decide) (fun c2 => ?_) (fun c2 => ?_)
  · have c2 : 1 ≤ b := zk_le (by omega) (by omega) c2
    refine lv_iload_n Z.1 Z.2.1 dX7_left_9 rfl (lv_at hl 0 rfl) ?_
    refine lv_iload_n Z.1 Z.2.1 dX7_left_10 rfl (lv_at hl 1 rfl) ?_
    refine zk_irem Z dX7_left_11 (nI_ne0 (by omega) (by omega)) (z := nI (t % b)) (pk_rem (by omega) (by omega) (by omega)) ?_
    exact zk_reti Z hR_ hlk hK hQ G () rfl rfl dX7_left_12
  exfalso
  have c2 : b < 1 := zk_nle (by omega) (by omega) c2
  omega

abbrev rm_X7_commonMeasure : Room := { frames := 0, cells := 0, slots := 0, locals := 0 }
theorem dvX7_commonMeasure : zk_dv yX7_commonMeasure RX7 2 := by decide +kernel
set_option maxRecDepth 100000 in
set_option maxHeartbeats 4000000 in
theorem ct_X7_commonMeasure (l : Launch) (D : va_G) (g : Nat → ClassId) (τ : Nat → Nat) (a0 : Nat) (b0 : Nat) (h1 : a0 * b0 < 2 ^ 90) (h2 : a0 < 2 ^ 63) (h3 : b0 < 2 ^ 63) : zk_ML l D g τ yX7_commonMeasure wsX7_commonMeasure rm_X7_commonMeasure [.long (lN a0), .long (lN b0)] [] (fun (r : Int64) (_ : Unit) => r = lN (Nat.gcd a0 b0)) (fun (_ : Unit) => []) := by
  refine zk_of (Qc := fun A => va_Ql (fun (r : Int64) (_ : Unit) => r = lN (Nat.gcd a0 b0)) (zk_B D g A (fun (_ : Unit) => [])) A) (cc := cX7_commonMeasure) (maxL := 7) (ret := (some .long)) (own := RX7) (by decide) rfl rfl (Nat.le_of_ble_eq_true rfl) ?_
  intro pP eE sS mM args below meth cC aA ls qQ Z hR_ hlk hnm hK hT hA hQ G hl
  refine lv_iconst (v := nI 0) Z.1 Z.2.1 dX7_commonMeasure_0 (by decide +kernel) ?_
  refine lv_istore (lv' := [(4, .int (nI 0)), (0, .long (lN a0)), (2, .long (lN b0))]) Z.1 Z.2.1 dX7_commonMeasure_1 hl (by decide) rfl (fun ls hl => ?_)
  have L3 : ∀ (N : Nat) (x : Nat) (y : Nat) (i : Nat), 100 - i < N → (Nat.gcd x y = Nat.gcd a0 b0) → (x < 2 ^ 63) → (y < 2 ^ 63) → (zs_EI a0 b0 x y i) → (i ≤ 100) → ∀ (H : Heap) (locs : List Loc) (ls : Array Slot), zk_G D aA [] sS H locs → lv_has ls 7 [(0, .long (lN x)), (2, .long (lN y)), (4, .int (nI i))] → W pP l eE rm_X7_commonMeasure sS mM args below meth cC H locs 0 0 qQ (F0 mM 3 ls []) := by
    intro N
    induction N with
    | zero => intros; omega
    | succ N ih3 =>
      intro x y i hμ hg hx hy hi hi2 H locs ls G hl
      refine lv_iload Z.1 Z.2.1 dX7_commonMeasure_3 (lv_at hl 2 rfl) ?_
      refine lv_bipush (v := nI 100) Z.1 Z.2.1 dX7_commonMeasure_5 (by decide +kernel) ?_
      refine lv_icmp_ge (tgt := 32) Z.1 Z.2.1 dX7_commonMeasure_7 (by decide) (fun c7 => ?_) (fun c7 => ?_)
      · have c7 : 100 ≤ i := zk_le (by omega) (by omega) c7
        refine lv_lload_n Z.1 Z.2.1 dX7_commonMeasure_32 rfl (lv_at hl 0 rfl) ?_
        exact zk_retl Z hR_ hlk hK hQ G () (zs_gcd_e hg (zs_euce h1 hi (by omega))) rfl dX7_commonMeasure_33
      have c7 : i < 100 := zk_nle (by omega) (by omega) c7
      refine lv_lload_n Z.1 Z.2.1 dX7_commonMeasure_10 rfl (lv_at hl 1 rfl) ?_
      refine lv_lconst (v := lN 0) Z.1 Z.2.1 dX7_commonMeasure_11 (by decide +kernel) ?_
      refine zk_lcmp Z dX7_commonMeasure_12 (z := lg_cmp (lN y) (lN 0)) rfl ?_
      refine lv_if_eq (tgt := 32) Z.1 Z.2.1 dX7_commonMeasure_13 (by decide) (fun c13 => ?_) (fun c13 => ?_)
      · have c13 : y = 0 := zs_lc0 hy c13
        refine lv_lload_n Z.1 Z.2.1 dX7_commonMeasure_32 rfl (lv_at hl 0 rfl) ?_
        exact zk_retl Z hR_ hlk hK hQ G () (zs_gcd_e hg c13) rfl dX7_commonMeasure_33
      have c13 : y ≠ 0 := fun q => c13 (zs_lc1 q)
      refine lv_lload_n Z.1 Z.2.1 dX7_commonMeasure_16 rfl (lv_at hl 0 rfl) ?_
      refine lv_lload_n Z.1 Z.2.1 dX7_commonMeasure_17 rfl (lv_at hl 1 rfl) ?_
      refine zk_lrem Z dX7_commonMeasure_18 (zk_lne0 (by omega) (by omega)) (z := lN (x % y)) (pk_lRem (by omega) (by omega) (by omega)) ?_
      refine lv_lstore (lv' := [(5, .long (lN (x % y))), (0, .long (lN x)), (2, .long (lN y)), (4, .int (nI i))]) Z.1 Z.2.1 dX7_commonMeasure_19 hl (by decide) rfl (fun ls hl => ?_)
      refine lv_lload_n Z.1 Z.2.1 dX7_commonMeasure_21 rfl (lv_at hl 2 rfl) ?_
      refine lv_lstore_n (lv' := [(0, .long (lN y)), (5, .long (lN (x % y))), (2, .long (lN y)), (4, .int (nI i))]) Z.1 Z.2.1 dX7_commonMeasure_22 rfl hl (by decide) rfl (fun ls hl => ?_)
      refine lv_lload Z.1 Z.2.1 dX7_commonMeasure_23 (lv_at hl 1 rfl) ?_
      refine lv_lstore_n (lv' := [(2, .long (lN (x % y))), (0, .long (lN y)), (5, .long (lN (x % y))), (4, .int (nI i))]) Z.1 Z.2.1 dX7_commonMeasure_25 rfl hl (by decide) rfl (fun ls hl => ?_)
      refine lv_iinc (v := nI (i + 1)) (lv' := [(4, .int (nI (i + 1))), (2, .long (lN (x % y))), (0, .long (lN y)), (5, .long (lN (x % y)))]) Z.1 Z.2.1 dX7_commonMeasure_26 hl (k := 3) rfl (zk_inc i 1) (by decide) rfl (fun ls hl => ?_)
      refine lv_goto (tgt := 3) Z.1 Z.2.1 dX7_commonMeasure_29 (by decide) ?_
      exact ih3 y (x % y) (i + 1) (by omega) (by exact zs_gcd_s hg) (by exact hy) (by exact Nat.lt_trans (Nat.mod_lt _ (by omega)) hy) (by exact zs_eucs hi (by omega)) (by omega) _ _ _ G (lv_sub hl [2, 1, 0] rfl)
  exact L3 _ a0 b0 0 (Nat.lt_succ_self _) (by rfl) (by omega) (by omega) (by exact Or.inl ⟨rfl, rfl, rfl⟩) (by omega) _ _ _ G (lv_sub hl [1, 2, 0] rfl)

abbrev rm_X7_commonRound : Room := { frames := 1, cells := 0, slots := 0, locals := 26 }
theorem dvX7_commonRound : zk_dv yX7_commonRound RX7 2 := by decide +kernel
set_option maxRecDepth 100000 in
set_option maxHeartbeats 4000000 in
theorem ct_X7_commonRound (l : Launch) (D : va_G) (g : Nat → ClassId) (τ : Nat → Nat) (u : Nat) (v : Nat) (h1 : 1 ≤ u) (h2 : 1 ≤ v) (h3 : u ≤ 30000) (h4 : v ≤ 12) : zk_MI l D g τ yX7_commonRound wsX7_commonRound rm_X7_commonRound [.int (nI u), .int (nI v)] [] (fun (r : Int32) (_ : Unit) => r = nI (zs_lcm u v)) (fun (_ : Unit) => []) := by
  refine zk_of (Qc := fun A => va_Qi (fun (r : Int32) (_ : Unit) => r = nI (zs_lcm u v)) (zk_B D g A (fun (_ : Unit) => [])) A) (cc := cX7_commonRound) (maxL := 3) (ret := (some .int)) (own := RX7) (by decide) rfl rfl (Nat.le_of_ble_eq_true rfl) ?_
  intro pP eE sS mM args below meth cC aA ls qQ Z hR_ hlk hnm hK hT hA hQ G hl
  have e0 : u * v ≤ 30000 * 12 := Nat.mul_le_mul h3 h4
  have e1 : 0 < Nat.gcd u v := Nat.gcd_pos_of_pos_left v h1
  have e2 : Nat.gcd u v ≤ u := Nat.gcd_le_left v h1
  refine lv_iload_n Z.1 Z.2.1 dX7_commonRound_0 rfl (lv_at hl 0 rfl) ?_
  refine lv_i2l (v := lN u) Z.1 Z.2.1 dX7_commonRound_1 (nI_l (by omega)) ?_
  refine lv_iload_n Z.1 Z.2.1 dX7_commonRound_2 rfl (lv_at hl 1 rfl) ?_
  refine lv_i2l (v := lN v) Z.1 Z.2.1 dX7_commonRound_3 (nI_l (by omega)) ?_
  refine zk_cl (WF := fun (_ : Unit) => []) (wr := []) ⟨rfl, rfl⟩ (zk_rs (As := [.long (lN u), .long (lN v)]) (rest := []) Z ((ct_X7_commonMeasure l D g τ u v (by omega) (by omega) (by omega)) sS.heap.size) hK hT hA G [] rfl (by decide) gX7_commonRound_X7_commonMeasure rfl dvX7_commonMeasure ⟨by decide, by decide⟩ rfl hl.1 rfl (Nat.le_of_ble_eq_true rfl) dX7_commonRound_4 ⟨Nat.zero_le _, Nat.zero_le _⟩) hA G [] [] [] rfl rfl (by decide) (by decide) (by decide) (fun _ => rfl) (fun r_4 _ H locs w_4 G => ?_)
  obtain rfl : r_4 = lN (Nat.gcd u v) := w_4
  refine lv_l2i (v := nI (Nat.gcd u v)) Z.1 Z.2.1 dX7_commonRound_7 (lN_i _) ?_
  refine lv_istore_n (lv' := [(2, .int (nI (Nat.gcd u v))), (0, .int (nI u)), (1, .int (nI v))]) Z.1 Z.2.1 dX7_commonRound_8 rfl hl (by decide) rfl (fun ls hl => ?_)
  refine lv_iload_n Z.1 Z.2.1 dX7_commonRound_9 rfl (lv_at hl 0 rfl) ?_
  refine lv_iconst (v := nI 1) Z.1 Z.2.1 dX7_commonRound_10 (by decide +kernel) ?_
  refine lv_icmp_ge (tgt := 18) Z.1 Z.2.1 dX7_commonRound_11 (by decide) (fun c11 => ?_) (fun c11 => ?_)
  · have c11 : 1 ≤ Nat.gcd u v := zk_le (by omega) (by omega) c11
    refine lv_iload_n Z.1 Z.2.1 dX7_commonRound_18 rfl (lv_at hl 1 rfl) ?_
    refine lv_iload_n Z.1 Z.2.1 dX7_commonRound_19 rfl (lv_at hl 0 rfl) ?_
    refine zk_idiv Z dX7_commonRound_20 (nI_ne0 (by omega) (by omega)) (z := nI (u / (Nat.gcd u v))) (pk_div (by omega) (by omega) (by omega)) ?_
    refine lv_iload_n Z.1 Z.2.1 dX7_commonRound_21 rfl (lv_at hl 2 rfl) ?_
    refine zk_imul Z dX7_commonRound_22 (z := nI ((u / (Nat.gcd u v)) * v)) (pk_mul _ _) ?_
    exact zk_reti Z hR_ hlk hK hQ G () rfl rfl dX7_commonRound_23
  exfalso
  have c11 : Nat.gcd u v < 1 := zk_nle (by omega) (by omega) c11
  omega

abbrev rm_X5_isWorld : Room := { frames := 0, cells := 0, slots := 0, locals := 0 }
theorem dvX5_isWorld : zk_dv yX5_isWorld RX5 3 := by decide +kernel
set_option maxRecDepth 100000 in
set_option maxHeartbeats 4000000 in
theorem ct_X5_isWorld (l : Launch) (D : va_G) (g : Nat → ClassId) (τ : Nat → Nat) (x : Int32) (y : Int32) (z : Int32)  : zk_MI l D g τ yX5_isWorld wsX5_isWorld rm_X5_isWorld [.int x, .int y, .int z] [] (fun (r : Int32) (_ : Unit) => r = zk_b (zs_isW x y z)) (fun (_ : Unit) => []) := by
  refine zk_of (Qc := fun A => va_Qi (fun (r : Int32) (_ : Unit) => r = zk_b (zs_isW x y z)) (zk_B D g A (fun (_ : Unit) => [])) A) (cc := cX5_isWorld) (maxL := 3) (ret := (some .boolean)) (own := RX5) (by decide) rfl rfl (Nat.le_of_ble_eq_true rfl) ?_
  intro pP eE sS mM args below meth cC aA ls qQ Z hR_ hlk hnm hK hT hA hQ G hl
  refine lv_iload_n Z.1 Z.2.1 dX5_isWorld_0 rfl (lv_at hl 0 rfl) ?_
  refine lv_iconst (v := nI 1) Z.1 Z.2.1 dX5_isWorld_1 (by decide +kernel) ?_
  refine lv_icmp_lt (tgt := 35) Z.1 Z.2.1 dX5_isWorld_2 (by decide) (fun c2 => ?_) (fun c2 => ?_)
  · have c2 : x < 1 := c2
    refine lv_iconst (v := nI 0) Z.1 Z.2.1 dX5_isWorld_35 (by decide +kernel) ?_
    refine W.eq (g2 := F0 mM 36 ls [.int (zk_b false)]) rfl ?_
    exact zk_retz Z hR_ hlk hK hQ G () (congrArg zk_b (by simp [zs_isW, c2])) rfl dX5_isWorld_36
  have c2 : ¬ x < 1 := c2
  refine lv_iload_n Z.1 Z.2.1 dX5_isWorld_5 rfl (lv_at hl 0 rfl) ?_
  refine lv_bipush (v := nI 12) Z.1 Z.2.1 dX5_isWorld_6 (by decide +kernel) ?_
  refine lv_icmp_gt (tgt := 35) Z.1 Z.2.1 dX5_isWorld_8 (by decide) (fun c8 => ?_) (fun c8 => ?_)
  · have c8 : 12 < x := c8
    refine lv_iconst (v := nI 0) Z.1 Z.2.1 dX5_isWorld_35 (by decide +kernel) ?_
    refine W.eq (g2 := F0 mM 36 ls [.int (zk_b false)]) rfl ?_
    exact zk_retz Z hR_ hlk hK hQ G () (congrArg zk_b (by simp [zs_isW, c2, c8])) rfl dX5_isWorld_36
  have c8 : ¬ 12 < x := c8
  refine lv_iload_n Z.1 Z.2.1 dX5_isWorld_11 rfl (lv_at hl 1 rfl) ?_
  refine lv_if_lt (tgt := 35) Z.1 Z.2.1 dX5_isWorld_12 (by decide) (fun c12 => ?_) (fun c12 => ?_)
  · have c12 : y < 0 := c12
    refine lv_iconst (v := nI 0) Z.1 Z.2.1 dX5_isWorld_35 (by decide +kernel) ?_
    refine W.eq (g2 := F0 mM 36 ls [.int (zk_b false)]) rfl ?_
    exact zk_retz Z hR_ hlk hK hQ G () (congrArg zk_b (by simp [zs_isW, c2, c8, c12])) rfl dX5_isWorld_36
  have c12 : ¬ y < 0 := c12
  refine lv_iload_n Z.1 Z.2.1 dX5_isWorld_15 rfl (lv_at hl 1 rfl) ?_
  refine lv_iload_n Z.1 Z.2.1 dX5_isWorld_16 rfl (lv_at hl 0 rfl) ?_
  refine lv_icmp_ge (tgt := 35) Z.1 Z.2.1 dX5_isWorld_17 (by decide) (fun c17 => ?_) (fun c17 => ?_)
  · have c17 : x ≤ y := c17
    refine lv_iconst (v := nI 0) Z.1 Z.2.1 dX5_isWorld_35 (by decide +kernel) ?_
    refine W.eq (g2 := F0 mM 36 ls [.int (zk_b false)]) rfl ?_
    exact zk_retz Z hR_ hlk hK hQ G () (congrArg zk_b (by simp [zs_isW, c2, c8, c12, c17])) rfl dX5_isWorld_36
  have c17 : ¬ x ≤ y := c17
  refine lv_iload_n Z.1 Z.2.1 dX5_isWorld_20 rfl (lv_at hl 2 rfl) ?_
  refine lv_iconst (v := nI 1) Z.1 Z.2.1 dX5_isWorld_21 (by decide +kernel) ?_
  refine lv_icmp_lt (tgt := 35) Z.1 Z.2.1 dX5_isWorld_22 (by decide) (fun c22 => ?_) (fun c22 => ?_)
  · have c22 : z < 1 := c22
    refine lv_iconst (v := nI 0) Z.1 Z.2.1 dX5_isWorld_35 (by decide +kernel) ?_
    refine W.eq (g2 := F0 mM 36 ls [.int (zk_b false)]) rfl ?_
    exact zk_retz Z hR_ hlk hK hQ G () (congrArg zk_b (by simp [zs_isW, c2, c8, c12, c17, c22])) rfl dX5_isWorld_36
  have c22 : ¬ z < 1 := c22
  refine lv_iload_n Z.1 Z.2.1 dX5_isWorld_25 rfl (lv_at hl 2 rfl) ?_
  refine lv_bipush (v := nI 9) Z.1 Z.2.1 dX5_isWorld_26 (by decide +kernel) ?_
  refine lv_icmp_gt (tgt := 35) Z.1 Z.2.1 dX5_isWorld_28 (by decide) (fun c28 => ?_) (fun c28 => ?_)
  · have c28 : 9 < z := c28
    refine lv_iconst (v := nI 0) Z.1 Z.2.1 dX5_isWorld_35 (by decide +kernel) ?_
    refine W.eq (g2 := F0 mM 36 ls [.int (zk_b false)]) rfl ?_
    exact zk_retz Z hR_ hlk hK hQ G () (congrArg zk_b (by simp [zs_isW, c2, c8, c12, c17, c22, c28])) rfl dX5_isWorld_36
  have c28 : ¬ 9 < z := c28
  refine lv_iconst (v := nI 1) Z.1 Z.2.1 dX5_isWorld_31 (by decide +kernel) ?_
  refine lv_goto (tgt := 36) Z.1 Z.2.1 dX5_isWorld_32 (by decide) ?_
  refine W.eq (g2 := F0 mM 36 ls [.int (zk_b true)]) rfl ?_
  exact zk_retz Z hR_ hlk hK hQ G () (congrArg zk_b (by simp [zs_isW, c2, c8, c12, c17, c22, c28])) rfl dX5_isWorld_36

abbrev rm_X5_phase : Room := { frames := 1, cells := 0, slots := 0, locals := 21 }
theorem dvX5_phase : zk_dv yX5_phase RX5 2 := by decide +kernel
set_option maxRecDepth 100000 in
set_option maxHeartbeats 4000000 in
theorem ct_X5_phase (l : Launch) (D : va_G) (g : Nat → ClassId) (τ : Nat → Nat) (a : Nat → Nat) (n : Nat) (hide : Nat) (ver : Nat) (ew : Int32) (ek : Bool) (P : Nat → Nat) (S : Nat → Nat) (w : Nat) (t : Nat) (hw : w < 7) (hp1 : 1 ≤ P w) (hp2 : P w ≤ 12) (hs : S w < 12) (ht : t < 2 ^ 30) : zk_MI l D g τ yX5_phase wsX5_phase rm_X5_phase [.ref (a 2), .int (nI w), .int (nI t)] [(a 2, .inr (5, [.ref (a 20), .ref (a 21), .ref (a 22), .int (nI n), .int (nI hide), .ref (a 1), .ref (a 23), .ref (a 24), .int (nI ver), .int ew, .int (zk_b ek)])), (a 20, .inl (g 0, 7, .inl (fun i => nI (P i)))), (a 21, .inl (g 0, 7, .inl (fun i => nI (S i))))] (fun (r : Int32) (_ : Unit) => r = nI (zs_ph P S w t)) (fun (_ : Unit) => [(a 2, .inr (5, [.ref (a 20), .ref (a 21), .ref (a 22), .int (nI n), .int (nI hide), .ref (a 1), .ref (a 23), .ref (a 24), .int (nI ver), .int ew, .int (zk_b ek)])), (a 20, .inl (g 0, 7, .inl (fun i => nI (P i)))), (a 21, .inl (g 0, 7, .inl (fun i => nI (S i))))]) := by
  refine zk_of (Qc := fun A => va_Qi (fun (r : Int32) (_ : Unit) => r = nI (zs_ph P S w t)) (zk_B D g A (fun (_ : Unit) => [(a 2, .inr (5, [.ref (a 20), .ref (a 21), .ref (a 22), .int (nI n), .int (nI hide), .ref (a 1), .ref (a 23), .ref (a 24), .int (nI ver), .int ew, .int (zk_b ek)])), (a 20, .inl (g 0, 7, .inl (fun i => nI (P i)))), (a 21, .inl (g 0, 7, .inl (fun i => nI (S i))))])) A) (cc := cX5_phase) (maxL := 3) (ret := (some .int)) (own := RX5) (by decide) rfl rfl (Nat.le_of_ble_eq_true rfl) ?_
  intro pP eE sS mM args below meth cC aA ls qQ Z hR_ hlk hnm hK hT hA hQ G hl
  have hinX5 : ∀ w ∈ u_ws RX5 TX5 11, w ∈ wsX5_phase := (fun _ h => List.mem_cons_of_mem _ (List.mem_append_right _ h))
  refine lv_iload_n Z.1 Z.2.1 dX5_phase_0 rfl (lv_at hl 2 rfl) ?_
  refine lv_aload_n Z.1 Z.2.1 dX5_phase_1 rfl (lv_at hl 0 rfl) ?_
  refine zk_get (C := RX5) (T := TX5) (N := 11) (ci := 5) Z hK G hinX5 0 rfl rfl 1 (by decide) (List.mem_of_getElem? (i := 1) rfl) rfl (v := .ref (a 21)) rfl dX5_phase_2 ?_
  refine lv_iload_n Z.1 Z.2.1 dX5_phase_5 rfl (lv_at hl 1 rfl) ?_
  refine zk_iald Z hK G 2 rfl (k := w) (by omega) (by decide) (v := nI (S w)) rfl dX5_phase_6 ?_
  refine zk_iadd Z dX5_phase_7 (z := nI (t + (S w))) (nI_add _ _) ?_
  refine lv_aload_n Z.1 Z.2.1 dX5_phase_8 rfl (lv_at hl 0 rfl) ?_
  refine zk_get (C := RX5) (T := TX5) (N := 11) (ci := 5) Z hK G hinX5 0 rfl rfl 0 (by decide) (List.mem_of_getElem? (i := 2) rfl) rfl (v := .ref (a 20)) rfl dX5_phase_9 ?_
  refine lv_iload_n Z.1 Z.2.1 dX5_phase_12 rfl (lv_at hl 1 rfl) ?_
  refine zk_iald Z hK G 1 rfl (k := w) (by omega) (by decide) (v := nI (P w)) rfl dX5_phase_13 ?_
  refine zk_ci (WF := fun (_ : Unit) => [(a 2, .inr (5, [.ref (a 20), .ref (a 21), .ref (a 22), .int (nI n), .int (nI hide), .ref (a 1), .ref (a 23), .ref (a 24), .int (nI ver), .int ew, .int (zk_b ek)])), (a 20, .inl (g 0, 7, .inl (fun i => nI (P i)))), (a 21, .inl (g 0, 7, .inl (fun i => nI (S i))))]) (wr := [(a 2, .inr (5, [.ref (a 20), .ref (a 21), .ref (a 22), .int (nI n), .int (nI hide), .ref (a 1), .ref (a 23), .ref (a 24), .int (nI ver), .int ew, .int (zk_b ek)])), (a 20, .inl (g 0, 7, .inl (fun i => nI (P i)))), (a 21, .inl (g 0, 7, .inl (fun i => nI (S i))))]) ⟨rfl, rfl⟩ (zk_rn (As := [.int (nI (t + (S w))), .int (nI (P w))]) (rest := []) (host := "BehindBig") Z ((ct_X7_left l D g τ (t + (S w)) (P w) (by omega) (by omega) (by omega)) sS.heap.size) hK hT hA G [] rfl (by decide) gX5_phase_X7_left_n65 rfl hT.2.2.2.2.1 (List.mem_of_getElem? (i := 3) rfl) (List.mem_of_getElem? (i := 4) rfl) dvX7_left ⟨by decide, by decide⟩ rfl hl.1 rfl (Nat.le_of_ble_eq_true rfl) dX5_phase_14 ⟨Nat.zero_le _, Nat.zero_le _⟩) hA G [] [0, 1, 2] [0, 1, 2] rfl rfl (by decide) (by decide) (by decide) (fun _ => rfl) (fun r_14 _ H locs w_14 G => ?_)
  obtain rfl : r_14 = nI ((t + (S w)) % (P w)) := w_14
  exact zk_reti Z hR_ hlk hK hQ G () rfl rfl dX5_phase_17

abbrev rm_X5_placeIn : Room := { frames := 0, cells := 0, slots := 0, locals := 0 }
theorem dvX5_placeIn : zk_dv yX5_placeIn RX5 2 := by decide +kernel
set_option maxRecDepth 100000 in
set_option maxHeartbeats 4000000 in
theorem ct_X5_placeIn (l : Launch) (D : va_G) (g : Nat → ClassId) (τ : Nat → Nat) (a : Nat → Nat) (n : Nat) (hide : Nat) (ver : Nat) (ew : Int32) (ek : Bool) (P : Nat → Nat) (w : Nat) (f : Nat) (hw : w < 7) (hp1 : 1 ≤ P w) (hp2 : P w ≤ 12) (hf : f < 12) : zk_MI l D g τ yX5_placeIn wsX5_placeIn rm_X5_placeIn [.ref (a 2), .int (nI w), .int (nI f)] [(a 2, .inr (5, [.ref (a 20), .ref (a 21), .ref (a 22), .int (nI n), .int (nI hide), .ref (a 1), .ref (a 23), .ref (a 24), .int (nI ver), .int ew, .int (zk_b ek)])), (a 20, .inl (g 0, 7, .inl (fun i => nI (P i))))] (fun (r : Int32) (_ : Unit) => r = nI (zs_pl P w f)) (fun (_ : Unit) => [(a 2, .inr (5, [.ref (a 20), .ref (a 21), .ref (a 22), .int (nI n), .int (nI hide), .ref (a 1), .ref (a 23), .ref (a 24), .int (nI ver), .int ew, .int (zk_b ek)])), (a 20, .inl (g 0, 7, .inl (fun i => nI (P i))))]) := by
  refine zk_of (Qc := fun A => va_Qi (fun (r : Int32) (_ : Unit) => r = nI (zs_pl P w f)) (zk_B D g A (fun (_ : Unit) => [(a 2, .inr (5, [.ref (a 20), .ref (a 21), .ref (a 22), .int (nI n), .int (nI hide), .ref (a 1), .ref (a 23), .ref (a 24), .int (nI ver), .int ew, .int (zk_b ek)])), (a 20, .inl (g 0, 7, .inl (fun i => nI (P i))))])) A) (cc := cX5_placeIn) (maxL := 3) (ret := (some .int)) (own := RX5) (by decide) rfl rfl (Nat.le_of_ble_eq_true rfl) ?_
  intro pP eE sS mM args below meth cC aA ls qQ Z hR_ hlk hnm hK hT hA hQ G hl
  have hinX5 : ∀ w ∈ u_ws RX5 TX5 11, w ∈ wsX5_placeIn := (fun _ h => List.mem_cons_of_mem _ (List.mem_append_right _ h))
  refine lv_aload_n Z.1 Z.2.1 dX5_placeIn_0 rfl (lv_at hl 0 rfl) ?_
  refine zk_get (C := RX5) (T := TX5) (N := 11) (ci := 5) Z hK G hinX5 0 rfl rfl 0 (by decide) (List.mem_of_getElem? (i := 1) rfl) rfl (v := .ref (a 20)) rfl dX5_placeIn_1 ?_
  refine lv_iload_n Z.1 Z.2.1 dX5_placeIn_4 rfl (lv_at hl 1 rfl) ?_
  refine zk_iald Z hK G 1 rfl (k := w) (by omega) (by decide) (v := nI (P w)) rfl dX5_placeIn_5 ?_
  refine lv_iconst (v := nI 1) Z.1 Z.2.1 dX5_placeIn_6 (by decide +kernel) ?_
  refine lv_icmp_ge (tgt := 14) Z.1 Z.2.1 dX5_placeIn_7 (by decide) (fun c7 => ?_) (fun c7 => ?_)
  · have c7 : 1 ≤ P w := zk_le (by omega) (by omega) c7
    refine lv_iload_n Z.1 Z.2.1 dX5_placeIn_14 rfl (lv_at hl 2 rfl) ?_
    refine lv_sipush (v := nI 360) Z.1 Z.2.1 dX5_placeIn_15 (by decide +kernel) ?_
    refine zk_imul Z dX5_placeIn_18 (z := nI (f * 360)) (pk_mul _ _) ?_
    refine lv_aload_n Z.1 Z.2.1 dX5_placeIn_19 rfl (lv_at hl 0 rfl) ?_
    refine zk_get (C := RX5) (T := TX5) (N := 11) (ci := 5) Z hK G hinX5 0 rfl rfl 0 (by decide) (List.mem_of_getElem? (i := 1) rfl) rfl (v := .ref (a 20)) rfl dX5_placeIn_20 ?_
    refine lv_iload_n Z.1 Z.2.1 dX5_placeIn_23 rfl (lv_at hl 1 rfl) ?_
    refine zk_iald Z hK G 1 rfl (k := w) (by omega) (by decide) (v := nI (P w)) rfl dX5_placeIn_24 ?_
    refine zk_idiv Z dX5_placeIn_25 (nI_ne0 (by omega) (by omega)) (z := nI ((f * 360) / (P w))) (pk_div (by omega) (by omega) (by omega)) ?_
    exact zk_reti Z hR_ hlk hK hQ G () rfl rfl dX5_placeIn_26
  exfalso
  have c7 : P w < 1 := zk_nle (by omega) (by omega) c7
  omega

abbrev rm_X5_placeAt : Room := { frames := 2, cells := 0, slots := 0, locals := 43 }
theorem dvX5_placeAt : zk_dv yX5_placeAt RX5 2 := by decide +kernel
set_option maxRecDepth 100000 in
set_option maxHeartbeats 4000000 in
theorem ct_X5_placeAt (l : Launch) (D : va_G) (g : Nat → ClassId) (τ : Nat → Nat) (a : Nat → Nat) (n : Nat) (hide : Nat) (ver : Nat) (ew : Int32) (ek : Bool) (P : Nat → Nat) (S : Nat → Nat) (w : Nat) (t : Nat) (hw : w < 7) (hp1 : 1 ≤ P w) (hp2 : P w ≤ 12) (hs : S w < 12) (ht : t < 2 ^ 30) : zk_MI l D g τ yX5_placeAt wsX5_placeAt rm_X5_placeAt [.ref (a 2), .int (nI w), .int (nI t)] [(a 2, .inr (5, [.ref (a 20), .ref (a 21), .ref (a 22), .int (nI n), .int (nI hide), .ref (a 1), .ref (a 23), .ref (a 24), .int (nI ver), .int ew, .int (zk_b ek)])), (a 20, .inl (g 0, 7, .inl (fun i => nI (P i)))), (a 21, .inl (g 0, 7, .inl (fun i => nI (S i))))] (fun (r : Int32) (_ : Unit) => r = nI (zs_at P S w t)) (fun (_ : Unit) => [(a 2, .inr (5, [.ref (a 20), .ref (a 21), .ref (a 22), .int (nI n), .int (nI hide), .ref (a 1), .ref (a 23), .ref (a 24), .int (nI ver), .int ew, .int (zk_b ek)])), (a 20, .inl (g 0, 7, .inl (fun i => nI (P i)))), (a 21, .inl (g 0, 7, .inl (fun i => nI (S i))))]) := by
  refine zk_of (Qc := fun A => va_Qi (fun (r : Int32) (_ : Unit) => r = nI (zs_at P S w t)) (zk_B D g A (fun (_ : Unit) => [(a 2, .inr (5, [.ref (a 20), .ref (a 21), .ref (a 22), .int (nI n), .int (nI hide), .ref (a 1), .ref (a 23), .ref (a 24), .int (nI ver), .int ew, .int (zk_b ek)])), (a 20, .inl (g 0, 7, .inl (fun i => nI (P i)))), (a 21, .inl (g 0, 7, .inl (fun i => nI (S i))))])) A) (cc := cX5_placeAt) (maxL := 3) (ret := (some .int)) (own := RX5) (by decide) rfl rfl (Nat.le_of_ble_eq_true rfl) ?_
  intro pP eE sS mM args below meth cC aA ls qQ Z hR_ hlk hnm hK hT hA hQ G hl
  have hq : zs_ph P S w t < P w := zs_ph_lt hp1
  refine lv_aload_n Z.1 Z.2.1 dX5_placeAt_0 rfl (lv_at hl 0 rfl) ?_
  refine lv_iload_n Z.1 Z.2.1 dX5_placeAt_1 rfl (lv_at hl 1 rfl) ?_
  refine lv_aload_n Z.1 Z.2.1 dX5_placeAt_2 rfl (lv_at hl 0 rfl) ?_
  refine lv_iload_n Z.1 Z.2.1 dX5_placeAt_3 rfl (lv_at hl 1 rfl) ?_
  refine lv_iload_n Z.1 Z.2.1 dX5_placeAt_4 rfl (lv_at hl 2 rfl) ?_
  refine zk_ci (WF := fun (_ : Unit) => [(a 2, .inr (5, [.ref (a 20), .ref (a 21), .ref (a 22), .int (nI n), .int (nI hide), .ref (a 1), .ref (a 23), .ref (a 24), .int (nI ver), .int ew, .int (zk_b ek)])), (a 20, .inl (g 0, 7, .inl (fun i => nI (P i)))), (a 21, .inl (g 0, 7, .inl (fun i => nI (S i))))]) (wr := []) ⟨rfl, rfl⟩ (zk_rv (As := [.int (nI w), .int (nI t)]) (rest := [.int (nI w), .ref (a 2)]) (q0 := 0) (ci := 5) Z ((ct_X5_phase l D g τ a n hide ver ew ek P S w t (by omega) (by omega) (by omega) (by omega) (by omega)) sS.heap.size) hK hT hA G [0, 1, 2] rfl (by decide) rfl rfl gX5_placeAt_X5_phase rfl dvX5_phase ⟨by decide, by decide⟩ rfl hl.1 rfl (Nat.le_of_ble_eq_true rfl) dX5_placeAt_5 ⟨Nat.zero_le _, Nat.zero_le _⟩) hA G [0, 1, 2] [] [0, 1, 2] rfl rfl (by decide) (by decide) (by decide) (fun _ => rfl) (fun r_5 _ H locs w_5 G => ?_)
  obtain rfl : r_5 = nI (zs_ph P S w t) := w_5
  refine zk_ci (WF := fun (_ : Unit) => [(a 2, .inr (5, [.ref (a 20), .ref (a 21), .ref (a 22), .int (nI n), .int (nI hide), .ref (a 1), .ref (a 23), .ref (a 24), .int (nI ver), .int ew, .int (zk_b ek)])), (a 20, .inl (g 0, 7, .inl (fun i => nI (P i)))), (a 21, .inl (g 0, 7, .inl (fun i => nI (S i))))]) (wr := [(a 21, .inl (g 0, 7, .inl (fun i => nI (S i))))]) ⟨rfl, rfl⟩ (zk_rv (As := [.int (nI w), .int (nI (zs_ph P S w t))]) (rest := []) (q0 := 0) (ci := 5) Z ((ct_X5_placeIn l D g τ a n hide ver ew ek P w (zs_ph P S w t) (by omega) (by omega) (by omega) (by omega)) H.size) hK hT hA G [0, 1] rfl (by decide) rfl rfl gX5_placeAt_X5_placeIn rfl dvX5_placeIn ⟨by decide, by decide⟩ rfl hl.1 rfl (Nat.le_of_ble_eq_true rfl) dX5_placeAt_8 ⟨Nat.zero_le _, Nat.zero_le _⟩) hA G [0, 1] [2] [1, 2, 0] rfl rfl (by decide) (by decide) (by decide) (fun _ => rfl) (fun r_8 _ H locs w_8 G => ?_)
  obtain rfl : r_8 = nI (zs_pl P w (zs_ph P S w t)) := w_8
  exact zk_reti Z hR_ hlk hK hQ G () rfl rfl dX5_placeAt_11

abbrev rm_X5_roundOfTwo : Room := { frames := 2, cells := 0, slots := 0, locals := 48 }
theorem dvX5_roundOfTwo : zk_dv yX5_roundOfTwo RX5 2 := by decide +kernel
set_option maxRecDepth 100000 in
set_option maxHeartbeats 4000000 in
theorem ct_X5_roundOfTwo (l : Launch) (D : va_G) (g : Nat → ClassId) (τ : Nat → Nat) (a : Nat → Nat) (n : Nat) (hide : Nat) (ver : Nat) (ew : Int32) (ek : Bool) (P : Nat → Nat) (i : Nat) (j : Nat) (hi : i < 7) (hj : j < 7) (h1 : 1 ≤ P i) (h2 : P i ≤ 12) (h3 : 1 ≤ P j) (h4 : P j ≤ 12) : zk_MI l D g τ yX5_roundOfTwo wsX5_roundOfTwo rm_X5_roundOfTwo [.ref (a 2), .int (nI i), .int (nI j)] [(a 2, .inr (5, [.ref (a 20), .ref (a 21), .ref (a 22), .int (nI n), .int (nI hide), .ref (a 1), .ref (a 23), .ref (a 24), .int (nI ver), .int ew, .int (zk_b ek)])), (a 20, .inl (g 0, 7, .inl (fun i => nI (P i))))] (fun (r : Int32) (_ : Unit) => r = nI (zs_lcm (P i) (P j))) (fun (_ : Unit) => [(a 2, .inr (5, [.ref (a 20), .ref (a 21), .ref (a 22), .int (nI n), .int (nI hide), .ref (a 1), .ref (a 23), .ref (a 24), .int (nI ver), .int ew, .int (zk_b ek)])), (a 20, .inl (g 0, 7, .inl (fun i => nI (P i))))]) := by
  refine zk_of (Qc := fun A => va_Qi (fun (r : Int32) (_ : Unit) => r = nI (zs_lcm (P i) (P j))) (zk_B D g A (fun (_ : Unit) => [(a 2, .inr (5, [.ref (a 20), .ref (a 21), .ref (a 22), .int (nI n), .int (nI hide), .ref (a 1), .ref (a 23), .ref (a 24), .int (nI ver), .int ew, .int (zk_b ek)])), (a 20, .inl (g 0, 7, .inl (fun i => nI (P i))))])) A) (cc := cX5_roundOfTwo) (maxL := 3) (ret := (some .int)) (own := RX5) (by decide) rfl rfl (Nat.le_of_ble_eq_true rfl) ?_
  intro pP eE sS mM args below meth cC aA ls qQ Z hR_ hlk hnm hK hT hA hQ G hl
  have hinX5 : ∀ w ∈ u_ws RX5 TX5 11, w ∈ wsX5_roundOfTwo := (fun _ h => List.mem_cons_of_mem _ (List.mem_append_right _ h))
  refine lv_aload_n Z.1 Z.2.1 dX5_roundOfTwo_0 rfl (lv_at hl 0 rfl) ?_
  refine zk_get (C := RX5) (T := TX5) (N := 11) (ci := 5) Z hK G hinX5 0 rfl rfl 0 (by decide) (List.mem_of_getElem? (i := 1) rfl) rfl (v := .ref (a 20)) rfl dX5_roundOfTwo_1 ?_
  refine lv_iload_n Z.1 Z.2.1 dX5_roundOfTwo_4 rfl (lv_at hl 1 rfl) ?_
  refine zk_iald Z hK G 1 rfl (k := i) (by omega) (by decide) (v := nI (P i)) rfl dX5_roundOfTwo_5 ?_
  refine lv_aload_n Z.1 Z.2.1 dX5_roundOfTwo_6 rfl (lv_at hl 0 rfl) ?_
  refine zk_get (C := RX5) (T := TX5) (N := 11) (ci := 5) Z hK G hinX5 0 rfl rfl 0 (by decide) (List.mem_of_getElem? (i := 1) rfl) rfl (v := .ref (a 20)) rfl dX5_roundOfTwo_7 ?_
  refine lv_iload_n Z.1 Z.2.1 dX5_roundOfTwo_10 rfl (lv_at hl 2 rfl) ?_
  refine zk_iald Z hK G 1 rfl (k := j) (by omega) (by decide) (v := nI (P j)) rfl dX5_roundOfTwo_11 ?_
  refine zk_ci (WF := fun (_ : Unit) => [(a 2, .inr (5, [.ref (a 20), .ref (a 21), .ref (a 22), .int (nI n), .int (nI hide), .ref (a 1), .ref (a 23), .ref (a 24), .int (nI ver), .int ew, .int (zk_b ek)])), (a 20, .inl (g 0, 7, .inl (fun i => nI (P i))))]) (wr := [(a 2, .inr (5, [.ref (a 20), .ref (a 21), .ref (a 22), .int (nI n), .int (nI hide), .ref (a 1), .ref (a 23), .ref (a 24), .int (nI ver), .int ew, .int (zk_b ek)])), (a 20, .inl (g 0, 7, .inl (fun i => nI (P i))))]) ⟨rfl, rfl⟩ (zk_rn (As := [.int (nI (P i)), .int (nI (P j))]) (rest := []) (host := "BehindBig") Z ((ct_X7_commonRound l D g τ (P i) (P j) (by omega) (by omega) (by omega) (by omega)) sS.heap.size) hK hT hA G [] rfl (by decide) gX5_roundOfTwo_X7_commonRound_n75 rfl hT.2.2.2.2.2.1 (List.mem_of_getElem? (i := 2) rfl) (List.mem_of_getElem? (i := 3) rfl) dvX7_commonRound ⟨by decide, by decide⟩ rfl hl.1 rfl (Nat.le_of_ble_eq_true rfl) dX5_roundOfTwo_12 ⟨Nat.zero_le _, Nat.zero_le _⟩) hA G [] [0, 1] [0, 1] rfl rfl (by decide) (by decide) (by decide) (fun _ => rfl) (fun r_12 _ H locs w_12 G => ?_)
  obtain rfl : r_12 = nI (zs_lcm (P i) (P j)) := w_12
  exact zk_reti Z hR_ hlk hK hQ G () rfl rfl dX5_roundOfTwo_15

abbrev rm_X5_pairs : Room := { frames := 0, cells := 0, slots := 0, locals := 0 }
theorem dvX5_pairs : zk_dv yX5_pairs RX5 0 := by decide +kernel
set_option maxRecDepth 100000 in
set_option maxHeartbeats 4000000 in
theorem ct_X5_pairs (l : Launch) (D : va_G) (g : Nat → ClassId) (τ : Nat → Nat) (a : Nat → Nat) (n : Nat) (hide : Nat) (ver : Nat) (ew : Int32) (ek : Bool) (hn : n ≤ 7) : zk_MI l D g τ yX5_pairs wsX5_pairs rm_X5_pairs [.ref (a 2)] [(a 2, .inr (5, [.ref (a 20), .ref (a 21), .ref (a 22), .int (nI n), .int (nI hide), .ref (a 1), .ref (a 23), .ref (a 24), .int (nI ver), .int ew, .int (zk_b ek)]))] (fun (r : Int32) (_ : Unit) => r = nI (n * (n - 1) / 2)) (fun (_ : Unit) => [(a 2, .inr (5, [.ref (a 20), .ref (a 21), .ref (a 22), .int (nI n), .int (nI hide), .ref (a 1), .ref (a 23), .ref (a 24), .int (nI ver), .int ew, .int (zk_b ek)]))]) := by
  refine zk_of (Qc := fun A => va_Qi (fun (r : Int32) (_ : Unit) => r = nI (n * (n - 1) / 2)) (zk_B D g A (fun (_ : Unit) => [(a 2, .inr (5, [.ref (a 20), .ref (a 21), .ref (a 22), .int (nI n), .int (nI hide), .ref (a 1), .ref (a 23), .ref (a 24), .int (nI ver), .int ew, .int (zk_b ek)]))])) A) (cc := cX5_pairs) (maxL := 1) (ret := (some .int)) (own := RX5) (by decide) rfl rfl (Nat.le_of_ble_eq_true rfl) ?_
  intro pP eE sS mM args below meth cC aA ls qQ Z hR_ hlk hnm hK hT hA hQ G hl
  have hinX5 : ∀ w ∈ u_ws RX5 TX5 11, w ∈ wsX5_pairs := (fun _ h => List.mem_cons_of_mem _ (List.mem_append_right _ h))
  have e0 : n * (n - 1) ≤ 7 * 6 := Nat.mul_le_mul hn (by omega)
  refine lv_aload_n Z.1 Z.2.1 dX5_pairs_0 rfl (lv_at hl 0 rfl) ?_
  refine zk_get (C := RX5) (T := TX5) (N := 11) (ci := 5) Z hK G hinX5 0 rfl rfl 3 (by decide) (List.mem_of_getElem? (i := 1) rfl) rfl (v := .int (nI n)) rfl dX5_pairs_1 ?_
  refine lv_iconst (v := nI 2) Z.1 Z.2.1 dX5_pairs_4 (by decide +kernel) ?_
  refine lv_icmp_ge (tgt := 12) Z.1 Z.2.1 dX5_pairs_5 (by decide) (fun c5 => ?_) (fun c5 => ?_)
  · have c5 : 2 ≤ n := zk_le (by omega) (by omega) c5
    refine lv_aload_n Z.1 Z.2.1 dX5_pairs_12 rfl (lv_at hl 0 rfl) ?_
    refine zk_get (C := RX5) (T := TX5) (N := 11) (ci := 5) Z hK G hinX5 0 rfl rfl 3 (by decide) (List.mem_of_getElem? (i := 1) rfl) rfl (v := .int (nI n)) rfl dX5_pairs_13 ?_
    refine lv_aload_n Z.1 Z.2.1 dX5_pairs_16 rfl (lv_at hl 0 rfl) ?_
    refine zk_get (C := RX5) (T := TX5) (N := 11) (ci := 5) Z hK G hinX5 0 rfl rfl 3 (by decide) (List.mem_of_getElem? (i := 1) rfl) rfl (v := .int (nI n)) rfl dX5_pairs_17 ?_
    refine lv_iconst (v := nI 1) Z.1 Z.2.1 dX5_pairs_20 (by decide +kernel) ?_
    refine zk_isub Z dX5_pairs_21 (z := nI (n - 1)) (pk_sub (by omega)) ?_
    refine zk_imul Z dX5_pairs_22 (z := nI (n * (n - 1))) (pk_mul _ _) ?_
    refine lv_iconst (v := nI 2) Z.1 Z.2.1 dX5_pairs_23 (by decide +kernel) ?_
    refine zk_idiv Z dX5_pairs_24 (nI_ne0 (by omega) (by omega)) (z := nI ((n * (n - 1)) / 2)) (pk_div (by omega) (by omega) (by omega)) ?_
    exact zk_reti Z hR_ hlk hK hQ G () rfl rfl dX5_pairs_25
  have c5 : n < 2 := zk_nle (by omega) (by omega) c5
  refine lv_iconst (v := nI 0) Z.1 Z.2.1 dX5_pairs_8 (by decide +kernel) ?_
  refine lv_goto (tgt := 25) Z.1 Z.2.1 dX5_pairs_9 (by decide) ?_
  exact zk_reti Z hR_ hlk hK hQ G () (congrArg nI (by rcases (show n = 0 ∨ n = 1 by omega) with rfl | rfl <;> rfl)) rfl dX5_pairs_25

abbrev rm_X5_forgetPair : Room := { frames := 0, cells := 0, slots := 0, locals := 0 }
theorem dvX5_forgetPair : zk_dv yX5_forgetPair RX5 1 := by decide +kernel
set_option maxRecDepth 100000 in
set_option maxHeartbeats 4000000 in
theorem ct_X5_forgetPair (l : Launch) (D : va_G) (g : Nat → ClassId) (τ : Nat → Nat) (a : Nat → Nat) (n : Nat) (hide : Nat) (ver : Nat) (ew : Int32) (ek : Bool) (T : Nat → Int32) (k : Nat) (hk : k < 21) : zk_MV l D g τ yX5_forgetPair wsX5_forgetPair rm_X5_forgetPair [.ref (a 2), .int (nI k)] [(a 2, .inr (5, [.ref (a 20), .ref (a 21), .ref (a 22), .int (nI n), .int (nI hide), .ref (a 1), .ref (a 23), .ref (a 24), .int (nI ver), .int ew, .int (zk_b ek)])), (a 23, .inl (g 2, 3024, .inl T))] (fun (_ : Unit) => True) (fun (_ : Unit) => [(a 2, .inr (5, [.ref (a 20), .ref (a 21), .ref (a 22), .int (nI n), .int (nI hide), .ref (a 1), .ref (a 23), .ref (a 24), .int (nI ver), .int ew, .int (zk_b ek)])), (a 23, .inl (g 2, 3024, .inl (zs_cl1 T k ((k + 1) * 144))))]) := by
  refine zk_of (Qc := fun A => va_Qv (fun (_ : Unit) => True) (zk_B D g A (fun (_ : Unit) => [(a 2, .inr (5, [.ref (a 20), .ref (a 21), .ref (a 22), .int (nI n), .int (nI hide), .ref (a 1), .ref (a 23), .ref (a 24), .int (nI ver), .int ew, .int (zk_b ek)])), (a 23, .inl (g 2, 3024, .inl (zs_cl1 T k ((k + 1) * 144))))])) A) (cc := cX5_forgetPair) (maxL := 3) (ret := none) (own := RX5) (by decide) rfl rfl (Nat.le_of_ble_eq_true rfl) ?_
  intro pP eE sS mM args below meth cC aA ls qQ Z hR_ hlk hnm hK hT hA hQ G hl
  have hinX5 : ∀ w ∈ u_ws RX5 TX5 11, w ∈ wsX5_forgetPair := (fun _ h => List.mem_cons_of_mem _ (List.mem_append_right _ h))
  have G : zk_G D aA [(a 2, .inr (5, [.ref (a 20), .ref (a 21), .ref (a 22), .int (nI n), .int (nI hide), .ref (a 1), .ref (a 23), .ref (a 24), .int (nI ver), .int ew, .int (zk_b ek)])), (a 23, .inl (g 2, 3024, .inl (zs_cl1 T k (k * 144))))] sS sS.heap [] := (by rw [zs_cl1_0]; exact G)
  refine lv_iload_n Z.1 Z.2.1 dX5_forgetPair_0 rfl (lv_at hl 1 rfl) ?_
  refine lv_sipush (v := nI 144) Z.1 Z.2.1 dX5_forgetPair_1 (by decide +kernel) ?_
  refine zk_imul Z dX5_forgetPair_4 (z := nI (k * 144)) (pk_mul _ _) ?_
  refine lv_istore_n (lv' := [(2, .int (nI (k * 144))), (0, .ref (a 2)), (1, .int (nI k))]) Z.1 Z.2.1 dX5_forgetPair_5 rfl hl (by decide) rfl (fun ls hl => ?_)
  have L6 : ∀ (N : Nat) (j : Nat), (k + 1) * 144 - j < N → (k * 144 ≤ j) → (j ≤ (k + 1) * 144) → ∀ (H : Heap) (locs : List Loc) (ls : Array Slot), zk_G D aA [(a 2, .inr (5, [.ref (a 20), .ref (a 21), .ref (a 22), .int (nI n), .int (nI hide), .ref (a 1), .ref (a 23), .ref (a 24), .int (nI ver), .int ew, .int (zk_b ek)])), (a 23, .inl (g 2, 3024, .inl (zs_cl1 T k j)))] sS H locs → lv_has ls 3 [(0, .ref (a 2)), (1, .int (nI k)), (2, .int (nI j))] → W pP l eE rm_X5_forgetPair sS mM args below meth cC H locs 0 0 qQ (F0 mM 6 ls []) := by
    intro N
    induction N with
    | zero => intros; omega
    | succ N ih6 =>
      intro j hμ h1 h2 H locs ls G hl
      refine lv_iload_n Z.1 Z.2.1 dX5_forgetPair_6 rfl (lv_at hl 2 rfl) ?_
      refine lv_iload_n Z.1 Z.2.1 dX5_forgetPair_7 rfl (lv_at hl 1 rfl) ?_
      refine lv_iconst (v := nI 1) Z.1 Z.2.1 dX5_forgetPair_8 (by decide +kernel) ?_
      refine zk_iadd Z dX5_forgetPair_9 (z := nI (k + 1)) (nI_add _ _) ?_
      refine lv_sipush (v := nI 144) Z.1 Z.2.1 dX5_forgetPair_10 (by decide +kernel) ?_
      refine zk_imul Z dX5_forgetPair_13 (z := nI ((k + 1) * 144)) (pk_mul _ _) ?_
      refine lv_icmp_ge (tgt := 39) Z.1 Z.2.1 dX5_forgetPair_14 (by decide) (fun c14 => ?_) (fun c14 => ?_)
      · have c14 : (k + 1) * 144 ≤ j := zk_le (by omega) (by omega) c14
        exact zk_retv Z hR_ hlk hK hQ G () trivial (by rw [show j = (k + 1) * 144 by omega]) dX5_forgetPair_39
      have c14 : j < (k + 1) * 144 := zk_nle (by omega) (by omega) c14
      refine lv_iload_n Z.1 Z.2.1 dX5_forgetPair_17 rfl (lv_at hl 2 rfl) ?_
      refine lv_aload_n Z.1 Z.2.1 dX5_forgetPair_18 rfl (lv_at hl 0 rfl) ?_
      refine zk_get (C := RX5) (T := TX5) (N := 11) (ci := 5) Z hK G hinX5 0 rfl rfl 6 (by decide) (List.mem_of_getElem? (i := 1) rfl) rfl (v := .ref (a 23)) rfl dX5_forgetPair_19 ?_
      refine zk_alen Z hK G 1 2 rfl rfl (v := nI 3024) rfl dX5_forgetPair_22 ?_
      refine lv_icmp_ge (tgt := 39) Z.1 Z.2.1 dX5_forgetPair_23 (by decide) (fun c23 => ?_) (fun c23 => ?_)
      · exfalso
        have c23 : 3024 ≤ j := zk_le (by omega) (by omega) c23
        omega
      have c23 : j < 3024 := zk_nle (by omega) (by omega) c23
      refine lv_aload_n Z.1 Z.2.1 dX5_forgetPair_26 rfl (lv_at hl 0 rfl) ?_
      refine zk_get (C := RX5) (T := TX5) (N := 11) (ci := 5) Z hK G hinX5 0 rfl rfl 6 (by decide) (List.mem_of_getElem? (i := 1) rfl) rfl (v := .ref (a 23)) rfl dX5_forgetPair_27 ?_
      refine lv_iload_n Z.1 Z.2.1 dX5_forgetPair_30 rfl (lv_at hl 2 rfl) ?_
      refine lv_iconst (v := nI 0) Z.1 Z.2.1 dX5_forgetPair_31 (by decide +kernel) ?_
      refine zk_bast Z hK G 1 rfl (k := j) (by omega) (by decide) (zs_cl1_s h1) (ws' := [(a 2, .inr (5, [.ref (a 20), .ref (a 21), .ref (a 22), .int (nI n), .int (nI hide), .ref (a 1), .ref (a 23), .ref (a 24), .int (nI ver), .int ew, .int (zk_b ek)])), (a 23, .inl (g 2, 3024, .inl (zs_cl1 T k (j + 1))))]) rfl dX5_forgetPair_32 (fun H locs G => ?_)
      refine lv_iinc (v := nI (j + 1)) (lv' := [(2, .int (nI (j + 1))), (0, .ref (a 2)), (1, .int (nI k))]) Z.1 Z.2.1 dX5_forgetPair_33 hl (k := 2) rfl (zk_inc j 1) (by decide) rfl (fun ls hl => ?_)
      refine lv_goto (tgt := 6) Z.1 Z.2.1 dX5_forgetPair_36 (by decide) ?_
      exact ih6 (j + 1) (by omega) (by omega) (by omega) _ _ _ G (lv_sub hl [1, 2, 0] rfl)
  exact L6 _ (k * 144) (Nat.lt_succ_self _) (by omega) (by omega) _ _ _ G (lv_sub hl [1, 2, 0] rfl)

abbrev rm_X5_forgetWorld : Room := { frames := 1, cells := 0, slots := 0, locals := 22 }
theorem dvX5_forgetWorld : zk_dv yX5_forgetWorld RX5 1 := by decide +kernel
set_option maxRecDepth 100000 in
set_option maxHeartbeats 4000000 in
theorem ct_X5_forgetWorld (l : Launch) (D : va_G) (g : Nat → ClassId) (τ : Nat → Nat) (a : Nat → Nat) (n : Nat) (hide : Nat) (ver : Nat) (ew : Int32) (ek : Bool) (T : Nat → Int32) (w : Nat) (hw : w < 7) : zk_MV l D g τ yX5_forgetWorld wsX5_forgetWorld rm_X5_forgetWorld [.ref (a 2), .int (nI w)] [(a 2, .inr (5, [.ref (a 20), .ref (a 21), .ref (a 22), .int (nI n), .int (nI hide), .ref (a 1), .ref (a 23), .ref (a 24), .int (nI ver), .int ew, .int (zk_b ek)])), (a 23, .inl (g 2, 3024, .inl T))] (fun (_ : Unit) => True) (fun (_ : Unit) => [(a 2, .inr (5, [.ref (a 20), .ref (a 21), .ref (a 22), .int (nI n), .int (nI hide), .ref (a 1), .ref (a 23), .ref (a 24), .int (nI (ver + 1)), .int ew, .int (zk_b false)])), (a 23, .inl (g 2, 3024, .inl (zs_clw T w 21)))]) := by
  refine zk_of (Qc := fun A => va_Qv (fun (_ : Unit) => True) (zk_B D g A (fun (_ : Unit) => [(a 2, .inr (5, [.ref (a 20), .ref (a 21), .ref (a 22), .int (nI n), .int (nI hide), .ref (a 1), .ref (a 23), .ref (a 24), .int (nI (ver + 1)), .int ew, .int (zk_b false)])), (a 23, .inl (g 2, 3024, .inl (zs_clw T w 21)))])) A) (cc := cX5_forgetWorld) (maxL := 3) (ret := none) (own := RX5) (by decide) rfl rfl (Nat.le_of_ble_eq_true rfl) ?_
  intro pP eE sS mM args below meth cC aA ls qQ Z hR_ hlk hnm hK hT hA hQ G hl
  have hinX5 : ∀ w ∈ u_ws RX5 TX5 11, w ∈ wsX5_forgetWorld := (fun _ h => List.mem_cons_of_mem _ (List.mem_append_right _ h))
  have G : zk_G D aA [(a 2, .inr (5, [.ref (a 20), .ref (a 21), .ref (a 22), .int (nI n), .int (nI hide), .ref (a 1), .ref (a 23), .ref (a 24), .int (nI ver), .int ew, .int (zk_b ek)])), (a 23, .inl (g 2, 3024, .inl (zs_clw T w 0)))] sS sS.heap [] := (by rw [zs_clw_0]; exact G)
  refine lv_iconst (v := nI 0) Z.1 Z.2.1 dX5_forgetWorld_0 (by decide +kernel) ?_
  refine lv_istore_n (lv' := [(2, .int (nI 0)), (0, .ref (a 2)), (1, .int (nI w))]) Z.1 Z.2.1 dX5_forgetWorld_1 rfl hl (by decide) rfl (fun ls hl => ?_)
  have L2 : ∀ (N : Nat) (k : Nat), 21 - k < N → (k ≤ 21) → ∀ (H : Heap) (locs : List Loc) (ls : Array Slot), zk_G D aA [(a 2, .inr (5, [.ref (a 20), .ref (a 21), .ref (a 22), .int (nI n), .int (nI hide), .ref (a 1), .ref (a 23), .ref (a 24), .int (nI ver), .int ew, .int (zk_b ek)])), (a 23, .inl (g 2, 3024, .inl (zs_clw T w k)))] sS H locs → lv_has ls 3 [(0, .ref (a 2)), (1, .int (nI w)), (2, .int (nI k))] → W pP l eE rm_X5_forgetWorld sS mM args below meth cC H locs 0 0 qQ (F0 mM 2 ls []) := by
    intro N
    induction N with
    | zero => intros; omega
    | succ N ih2 =>
      intro k hμ h1 H locs ls G hl
      have hle := zk_les_lt k
      have hge := zk_gre_lt k
      refine lv_iload_n Z.1 Z.2.1 dX5_forgetWorld_2 rfl (lv_at hl 2 rfl) ?_
      refine lv_bipush (v := nI 21) Z.1 Z.2.1 dX5_forgetWorld_3 (by decide +kernel) ?_
      refine lv_icmp_ge (tgt := 37) Z.1 Z.2.1 dX5_forgetWorld_5 (by decide) (fun c5 => ?_) (fun c5 => ?_)
      · have c5 : 21 ≤ k := zk_le (by omega) (by omega) c5
        obtain rfl : k = 21 := by omega
        refine lv_aload_n Z.1 Z.2.1 dX5_forgetWorld_37 rfl (lv_at hl 0 rfl) ?_
        refine lv_iconst (v := nI 0) Z.1 Z.2.1 dX5_forgetWorld_38 (by decide +kernel) ?_
        refine W.eq (g2 := F0 mM 39 ls [.int (zk_b false), .ref (a 2)]) rfl ?_
        refine zk_put tyX5 tyX5_ok nmX5 (C := RX5) (T := TX5) (N := 11) (ci := 5) Z hK G hinX5 0 rfl rfl 10 (by decide) (List.mem_of_getElem? (i := 3) rfl) rfl rfl zk_bnar zk_bfit (Nat.le_of_ble_eq_true rfl) (ws' := [(a 2, .inr (5, [.ref (a 20), .ref (a 21), .ref (a 22), .int (nI n), .int (nI hide), .ref (a 1), .ref (a 23), .ref (a 24), .int (nI ver), .int ew, .int (zk_b false)])), (a 23, .inl (g 2, 3024, .inl (zs_clw T w 21)))]) rfl dX5_forgetWorld_39 (fun H locs G => ?_)
        refine lv_aload_n Z.1 Z.2.1 dX5_forgetWorld_42 rfl (lv_at hl 0 rfl) ?_
        refine lv_dup Z.1 Z.2.1 dX5_forgetWorld_43 rfl ?_
        refine zk_get (C := RX5) (T := TX5) (N := 11) (ci := 5) Z hK G hinX5 0 rfl rfl 8 (by decide) (List.mem_of_getElem? (i := 4) rfl) rfl (v := .int (nI ver)) rfl dX5_forgetWorld_44 ?_
        refine lv_iconst (v := nI 1) Z.1 Z.2.1 dX5_forgetWorld_47 (by decide +kernel) ?_
        refine zk_iadd Z dX5_forgetWorld_48 (z := nI (ver + 1)) (nI_add _ _) ?_
        refine zk_put tyX5 tyX5_ok nmX5 (C := RX5) (T := TX5) (N := 11) (ci := 5) Z hK G hinX5 0 rfl rfl 8 (by decide) (List.mem_of_getElem? (i := 4) rfl) rfl rfl rfl rfl (Nat.le_of_ble_eq_true rfl) (ws' := [(a 2, .inr (5, [.ref (a 20), .ref (a 21), .ref (a 22), .int (nI n), .int (nI hide), .ref (a 1), .ref (a 23), .ref (a 24), .int (nI (ver + 1)), .int ew, .int (zk_b false)])), (a 23, .inl (g 2, 3024, .inl (zs_clw T w 21)))]) rfl dX5_forgetWorld_49 (fun H locs G => ?_)
        exact zk_retv Z hR_ hlk hK hQ G () trivial rfl dX5_forgetWorld_52
      have c5 : k < 21 := zk_nle (by omega) (by omega) c5
      refine zk_gets Z G hT.1 (List.mem_of_getElem? (i := 1) rfl) dX5_forgetWorld_8 ?_
      refine lv_iload_n Z.1 Z.2.1 dX5_forgetWorld_11 rfl (lv_at hl 2 rfl) ?_
      refine zk_ti Z G hT.1 (k := k) (by omega) (by decide) (v := .int (nI (zk_les k))) rfl dX5_forgetWorld_12 ?_
      refine lv_iload_n Z.1 Z.2.1 dX5_forgetWorld_13 rfl (lv_at hl 1 rfl) ?_
      refine lv_icmp_eq (tgt := 26) Z.1 Z.2.1 dX5_forgetWorld_14 (by decide) (fun c14 => ?_) (fun c14 => ?_)
      · have c14 : zk_les k = w := zk_eq (by omega) (by omega) c14
        refine lv_aload_n Z.1 Z.2.1 dX5_forgetWorld_26 rfl (lv_at hl 0 rfl) ?_
        refine lv_iload_n Z.1 Z.2.1 dX5_forgetWorld_27 rfl (lv_at hl 2 rfl) ?_
        refine zk_cv (WF := fun (_ : Unit) => [(a 2, .inr (5, [.ref (a 20), .ref (a 21), .ref (a 22), .int (nI n), .int (nI hide), .ref (a 1), .ref (a 23), .ref (a 24), .int (nI ver), .int ew, .int (zk_b ek)])), (a 23, .inl (g 2, 3024, .inl (zs_cl1 (zs_clw T w k) k ((k + 1) * 144))))]) (wr := []) ⟨rfl, rfl⟩ (zk_rv (As := [.int (nI k)]) (rest := []) (q0 := 0) (ci := 5) Z ((ct_X5_forgetPair l D g τ a n hide ver ew ek (zs_clw T w k) k (by omega)) H.size) hK hT hA G [0, 1] rfl (by decide) rfl rfl gX5_forgetWorld_X5_forgetPair rfl dvX5_forgetPair ⟨by decide, by decide⟩ rfl hl.1 rfl (Nat.le_of_ble_eq_true rfl) dX5_forgetWorld_28 ⟨Nat.zero_le _, Nat.zero_le _⟩) hA G [0, 1] [] [0, 1] rfl rfl (by decide) (by decide) (by decide) (fun _ => rfl) (fun _ H locs w_28 G => ?_)
        have G : zk_G D aA [(a 2, .inr (5, [.ref (a 20), .ref (a 21), .ref (a 22), .int (nI n), .int (nI hide), .ref (a 1), .ref (a 23), .ref (a 24), .int (nI ver), .int ew, .int (zk_b ek)])), (a 23, .inl (g 2, 3024, .inl (zs_clw T w (k + 1))))] sS H locs := (by rw [← zs_clw_y (Or.inl c14)]; exact G)
        refine lv_iinc (v := nI (k + 1)) (lv' := [(2, .int (nI (k + 1))), (0, .ref (a 2)), (1, .int (nI w))]) Z.1 Z.2.1 dX5_forgetWorld_31 hl (k := 2) rfl (zk_inc k 1) (by decide) rfl (fun ls hl => ?_)
        refine lv_goto (tgt := 2) Z.1 Z.2.1 dX5_forgetWorld_34 (by decide) ?_
        exact ih2 (k + 1) (by omega) (by omega) _ _ _ G (lv_sub hl [1, 2, 0] rfl)
      have c14 : zk_les k ≠ w := zk_neq (by omega) (by omega) c14
      refine zk_gets Z G hT.2.1 (List.mem_of_getElem? (i := 2) rfl) dX5_forgetWorld_17 ?_
      refine lv_iload_n Z.1 Z.2.1 dX5_forgetWorld_20 rfl (lv_at hl 2 rfl) ?_
      refine zk_ti Z G hT.2.1 (k := k) (by omega) (by decide) (v := .int (nI (zk_gre k))) rfl dX5_forgetWorld_21 ?_
      refine lv_iload_n Z.1 Z.2.1 dX5_forgetWorld_22 rfl (lv_at hl 1 rfl) ?_
      refine lv_icmp_ne (tgt := 31) Z.1 Z.2.1 dX5_forgetWorld_23 (by decide) (fun c23 => ?_) (fun c23 => ?_)
      · have c23 : zk_gre k ≠ w := zk_neq (by omega) (by omega) c23
        have G : zk_G D aA [(a 2, .inr (5, [.ref (a 20), .ref (a 21), .ref (a 22), .int (nI n), .int (nI hide), .ref (a 1), .ref (a 23), .ref (a 24), .int (nI ver), .int ew, .int (zk_b ek)])), (a 23, .inl (g 2, 3024, .inl (zs_clw T w (k + 1))))] sS H locs := (by rw [← zs_clw_n (fun q => q.elim c14 c23)]; exact G)
        refine lv_iinc (v := nI (k + 1)) (lv' := [(2, .int (nI (k + 1))), (0, .ref (a 2)), (1, .int (nI w))]) Z.1 Z.2.1 dX5_forgetWorld_31 hl (k := 2) rfl (zk_inc k 1) (by decide) rfl (fun ls hl => ?_)
        refine lv_goto (tgt := 2) Z.1 Z.2.1 dX5_forgetWorld_34 (by decide) ?_
        exact ih2 (k + 1) (by omega) (by omega) _ _ _ G (lv_sub hl [1, 2, 0] rfl)
      have c23 : zk_gre k = w := zk_eq (by omega) (by omega) c23
      refine lv_aload_n Z.1 Z.2.1 dX5_forgetWorld_26 rfl (lv_at hl 0 rfl) ?_
      refine lv_iload_n Z.1 Z.2.1 dX5_forgetWorld_27 rfl (lv_at hl 2 rfl) ?_
      refine zk_cv (WF := fun (_ : Unit) => [(a 2, .inr (5, [.ref (a 20), .ref (a 21), .ref (a 22), .int (nI n), .int (nI hide), .ref (a 1), .ref (a 23), .ref (a 24), .int (nI ver), .int ew, .int (zk_b ek)])), (a 23, .inl (g 2, 3024, .inl (zs_cl1 (zs_clw T w k) k ((k + 1) * 144))))]) (wr := []) ⟨rfl, rfl⟩ (zk_rv (As := [.int (nI k)]) (rest := []) (q0 := 0) (ci := 5) Z ((ct_X5_forgetPair l D g τ a n hide ver ew ek (zs_clw T w k) k (by omega)) H.size) hK hT hA G [0, 1] rfl (by decide) rfl rfl gX5_forgetWorld_X5_forgetPair rfl dvX5_forgetPair ⟨by decide, by decide⟩ rfl hl.1 rfl (Nat.le_of_ble_eq_true rfl) dX5_forgetWorld_28 ⟨Nat.zero_le _, Nat.zero_le _⟩) hA G [0, 1] [] [0, 1] rfl rfl (by decide) (by decide) (by decide) (fun _ => rfl) (fun _ H locs w_28 G => ?_)
      have G : zk_G D aA [(a 2, .inr (5, [.ref (a 20), .ref (a 21), .ref (a 22), .int (nI n), .int (nI hide), .ref (a 1), .ref (a 23), .ref (a 24), .int (nI ver), .int ew, .int (zk_b ek)])), (a 23, .inl (g 2, 3024, .inl (zs_clw T w (k + 1))))] sS H locs := (by rw [← zs_clw_y (Or.inr c23)]; exact G)
      refine lv_iinc (v := nI (k + 1)) (lv' := [(2, .int (nI (k + 1))), (0, .ref (a 2)), (1, .int (nI w))]) Z.1 Z.2.1 dX5_forgetWorld_31 hl (k := 2) rfl (zk_inc k 1) (by decide) rfl (fun ls hl => ?_)
      refine lv_goto (tgt := 2) Z.1 Z.2.1 dX5_forgetWorld_34 (by decide) ?_
      exact ih2 (k + 1) (by omega) (by omega) _ _ _ G (lv_sub hl [1, 2, 0] rfl)
  exact L2 _ 0 (Nat.lt_succ_self _) (by omega) _ _ _ G (lv_sub hl [1, 2, 0] rfl)

abbrev rm_X5_add : Room := { frames := 2, cells := 0, slots := 0, locals := 44 }
theorem dvX5_add : zk_dv yX5_add RX5 3 := by decide +kernel
set_option maxRecDepth 100000 in
set_option maxHeartbeats 4000000 in
theorem ct_X5_add (l : Launch) (D : va_G) (g : Nat → ClassId) (τ : Nat → Nat) (a : Nat → Nat) (n : Nat) (hide : Nat) (ver : Nat) (ew : Int32) (ek : Bool) (P : Nat → Nat) (S : Nat → Nat) (Q : Nat → Nat) (T : Nat → Int32) (p1 : Nat) (q1 : Nat) (r1 : Nat) (hn : n < 7) : zk_MI l D g τ yX5_add wsX5_add rm_X5_add [.ref (a 2), .int (nI p1), .int (nI q1), .int (nI r1)] [(a 2, .inr (5, [.ref (a 20), .ref (a 21), .ref (a 22), .int (nI n), .int (nI hide), .ref (a 1), .ref (a 23), .ref (a 24), .int (nI ver), .int ew, .int (zk_b ek)])), (a 20, .inl (g 0, 7, .inl (fun i => nI (P i)))), (a 21, .inl (g 0, 7, .inl (fun i => nI (S i)))), (a 22, .inl (g 0, 7, .inl (fun i => nI (Q i)))), (a 23, .inl (g 2, 3024, .inl T))] (fun (r : Int32) (_ : Unit) => r = nI n) (fun (_ : Unit) => [(a 2, .inr (5, [.ref (a 20), .ref (a 21), .ref (a 22), .int (nI (n + 1)), .int (nI hide), .ref (a 1), .ref (a 23), .ref (a 24), .int (nI (ver + 1)), .int ew, .int (zk_b false)])), (a 20, .inl (g 0, 7, .inl (fun i => nI (zs_up P n p1 i)))), (a 21, .inl (g 0, 7, .inl (fun i => nI (zs_up S n q1 i)))), (a 22, .inl (g 0, 7, .inl (fun i => nI (zs_up Q n r1 i)))), (a 23, .inl (g 2, 3024, .inl (zs_clw T n 21)))]) := by
  refine zk_of (Qc := fun A => va_Qi (fun (r : Int32) (_ : Unit) => r = nI n) (zk_B D g A (fun (_ : Unit) => [(a 2, .inr (5, [.ref (a 20), .ref (a 21), .ref (a 22), .int (nI (n + 1)), .int (nI hide), .ref (a 1), .ref (a 23), .ref (a 24), .int (nI (ver + 1)), .int ew, .int (zk_b false)])), (a 20, .inl (g 0, 7, .inl (fun i => nI (zs_up P n p1 i)))), (a 21, .inl (g 0, 7, .inl (fun i => nI (zs_up S n q1 i)))), (a 22, .inl (g 0, 7, .inl (fun i => nI (zs_up Q n r1 i)))), (a 23, .inl (g 2, 3024, .inl (zs_clw T n 21)))])) A) (cc := cX5_add) (maxL := 4) (ret := (some .int)) (own := RX5) (by decide) rfl rfl (Nat.le_of_ble_eq_true rfl) ?_
  intro pP eE sS mM args below meth cC aA ls qQ Z hR_ hlk hnm hK hT hA hQ G hl
  have hinX5 : ∀ w ∈ u_ws RX5 TX5 11, w ∈ wsX5_add := (fun _ h => List.mem_cons_of_mem _ (List.mem_append_right _ h))
  refine lv_aload_n Z.1 Z.2.1 dX5_add_0 rfl (lv_at hl 0 rfl) ?_
  refine zk_get (C := RX5) (T := TX5) (N := 11) (ci := 5) Z hK G hinX5 0 rfl rfl 3 (by decide) (List.mem_of_getElem? (i := 1) rfl) rfl (v := .int (nI n)) rfl dX5_add_1 ?_
  refine lv_bipush (v := nI 7) Z.1 Z.2.1 dX5_add_4 (by decide +kernel) ?_
  refine lv_icmp_lt (tgt := 12) Z.1 Z.2.1 dX5_add_6 (by decide) (fun c6 => ?_) (fun c6 => ?_)
  · have c6 : n < 7 := zk_lt (by omega) (by omega) c6
    refine lv_aload_n Z.1 Z.2.1 dX5_add_12 rfl (lv_at hl 0 rfl) ?_
    refine zk_get (C := RX5) (T := TX5) (N := 11) (ci := 5) Z hK G hinX5 0 rfl rfl 0 (by decide) (List.mem_of_getElem? (i := 2) rfl) rfl (v := .ref (a 20)) rfl dX5_add_13 ?_
    refine lv_aload_n Z.1 Z.2.1 dX5_add_16 rfl (lv_at hl 0 rfl) ?_
    refine zk_get (C := RX5) (T := TX5) (N := 11) (ci := 5) Z hK G hinX5 0 rfl rfl 3 (by decide) (List.mem_of_getElem? (i := 1) rfl) rfl (v := .int (nI n)) rfl dX5_add_17 ?_
    refine lv_iload_n Z.1 Z.2.1 dX5_add_20 rfl (lv_at hl 1 rfl) ?_
    refine zk_iast Z hK G 1 rfl (k := n) (by omega) (by decide) (zs_up_n _ _ _) (ws' := [(a 2, .inr (5, [.ref (a 20), .ref (a 21), .ref (a 22), .int (nI n), .int (nI hide), .ref (a 1), .ref (a 23), .ref (a 24), .int (nI ver), .int ew, .int (zk_b ek)])), (a 20, .inl (g 0, 7, .inl (fun i => nI (zs_up P n p1 i)))), (a 21, .inl (g 0, 7, .inl (fun i => nI (S i)))), (a 22, .inl (g 0, 7, .inl (fun i => nI (Q i)))), (a 23, .inl (g 2, 3024, .inl T))]) rfl dX5_add_21 (fun H locs G => ?_)
    refine lv_aload_n Z.1 Z.2.1 dX5_add_22 rfl (lv_at hl 0 rfl) ?_
    refine zk_get (C := RX5) (T := TX5) (N := 11) (ci := 5) Z hK G hinX5 0 rfl rfl 1 (by decide) (List.mem_of_getElem? (i := 3) rfl) rfl (v := .ref (a 21)) rfl dX5_add_23 ?_
    refine lv_aload_n Z.1 Z.2.1 dX5_add_26 rfl (lv_at hl 0 rfl) ?_
    refine zk_get (C := RX5) (T := TX5) (N := 11) (ci := 5) Z hK G hinX5 0 rfl rfl 3 (by decide) (List.mem_of_getElem? (i := 1) rfl) rfl (v := .int (nI n)) rfl dX5_add_27 ?_
    refine lv_iload_n Z.1 Z.2.1 dX5_add_30 rfl (lv_at hl 2 rfl) ?_
    refine zk_iast Z hK G 2 rfl (k := n) (by omega) (by decide) (zs_up_n _ _ _) (ws' := [(a 2, .inr (5, [.ref (a 20), .ref (a 21), .ref (a 22), .int (nI n), .int (nI hide), .ref (a 1), .ref (a 23), .ref (a 24), .int (nI ver), .int ew, .int (zk_b ek)])), (a 20, .inl (g 0, 7, .inl (fun i => nI (zs_up P n p1 i)))), (a 21, .inl (g 0, 7, .inl (fun i => nI (zs_up S n q1 i)))), (a 22, .inl (g 0, 7, .inl (fun i => nI (Q i)))), (a 23, .inl (g 2, 3024, .inl T))]) rfl dX5_add_31 (fun H locs G => ?_)
    refine lv_aload_n Z.1 Z.2.1 dX5_add_32 rfl (lv_at hl 0 rfl) ?_
    refine zk_get (C := RX5) (T := TX5) (N := 11) (ci := 5) Z hK G hinX5 0 rfl rfl 2 (by decide) (List.mem_of_getElem? (i := 4) rfl) rfl (v := .ref (a 22)) rfl dX5_add_33 ?_
    refine lv_aload_n Z.1 Z.2.1 dX5_add_36 rfl (lv_at hl 0 rfl) ?_
    refine zk_get (C := RX5) (T := TX5) (N := 11) (ci := 5) Z hK G hinX5 0 rfl rfl 3 (by decide) (List.mem_of_getElem? (i := 1) rfl) rfl (v := .int (nI n)) rfl dX5_add_37 ?_
    refine lv_iload_n Z.1 Z.2.1 dX5_add_40 rfl (lv_at hl 3 rfl) ?_
    refine zk_iast Z hK G 3 rfl (k := n) (by omega) (by decide) (zs_up_n _ _ _) (ws' := [(a 2, .inr (5, [.ref (a 20), .ref (a 21), .ref (a 22), .int (nI n), .int (nI hide), .ref (a 1), .ref (a 23), .ref (a 24), .int (nI ver), .int ew, .int (zk_b ek)])), (a 20, .inl (g 0, 7, .inl (fun i => nI (zs_up P n p1 i)))), (a 21, .inl (g 0, 7, .inl (fun i => nI (zs_up S n q1 i)))), (a 22, .inl (g 0, 7, .inl (fun i => nI (zs_up Q n r1 i)))), (a 23, .inl (g 2, 3024, .inl T))]) rfl dX5_add_41 (fun H locs G => ?_)
    refine lv_aload_n Z.1 Z.2.1 dX5_add_42 rfl (lv_at hl 0 rfl) ?_
    refine lv_aload_n Z.1 Z.2.1 dX5_add_43 rfl (lv_at hl 0 rfl) ?_
    refine zk_get (C := RX5) (T := TX5) (N := 11) (ci := 5) Z hK G hinX5 0 rfl rfl 3 (by decide) (List.mem_of_getElem? (i := 1) rfl) rfl (v := .int (nI n)) rfl dX5_add_44 ?_
    refine zk_cv (WF := fun (_ : Unit) => [(a 2, .inr (5, [.ref (a 20), .ref (a 21), .ref (a 22), .int (nI n), .int (nI hide), .ref (a 1), .ref (a 23), .ref (a 24), .int (nI (ver + 1)), .int ew, .int (zk_b false)])), (a 20, .inl (g 0, 7, .inl (fun i => nI (zs_up P n p1 i)))), (a 21, .inl (g 0, 7, .inl (fun i => nI (zs_up S n q1 i)))), (a 22, .inl (g 0, 7, .inl (fun i => nI (zs_up Q n r1 i)))), (a 23, .inl (g 2, 3024, .inl (zs_clw T n 21)))]) (wr := [(a 20, .inl (g 0, 7, .inl (fun i => nI (zs_up P n p1 i)))), (a 21, .inl (g 0, 7, .inl (fun i => nI (zs_up S n q1 i)))), (a 22, .inl (g 0, 7, .inl (fun i => nI (zs_up Q n r1 i))))]) ⟨rfl, rfl⟩ (zk_rv (As := [.int (nI n)]) (rest := []) (q0 := 0) (ci := 5) Z ((ct_X5_forgetWorld l D g τ a n hide ver ew ek T n (by omega)) H.size) hK hT hA G [0, 4] rfl (by decide) rfl rfl gX5_add_X5_forgetWorld rfl dvX5_forgetWorld ⟨by decide, by decide⟩ rfl hl.1 rfl (Nat.le_of_ble_eq_true rfl) dX5_add_47 ⟨Nat.zero_le _, Nat.zero_le _⟩) hA G [0, 4] [1, 2, 3] [3, 0, 1, 2, 4] rfl rfl (by decide) (by decide) (by decide) (fun _ => rfl) (fun _ H locs w_47 G => ?_)
    refine lv_aload_n Z.1 Z.2.1 dX5_add_50 rfl (lv_at hl 0 rfl) ?_
    refine lv_dup Z.1 Z.2.1 dX5_add_51 rfl ?_
    refine zk_get (C := RX5) (T := TX5) (N := 11) (ci := 5) Z hK G hinX5 0 rfl rfl 3 (by decide) (List.mem_of_getElem? (i := 1) rfl) rfl (v := .int (nI n)) rfl dX5_add_52 ?_
    refine lv_iconst (v := nI 1) Z.1 Z.2.1 dX5_add_55 (by decide +kernel) ?_
    refine zk_iadd Z dX5_add_56 (z := nI (n + 1)) (nI_add _ _) ?_
    refine zk_put tyX5 tyX5_ok nmX5 (C := RX5) (T := TX5) (N := 11) (ci := 5) Z hK G hinX5 0 rfl rfl 3 (by decide) (List.mem_of_getElem? (i := 1) rfl) rfl rfl rfl rfl (Nat.le_of_ble_eq_true rfl) (ws' := [(a 2, .inr (5, [.ref (a 20), .ref (a 21), .ref (a 22), .int (nI (n + 1)), .int (nI hide), .ref (a 1), .ref (a 23), .ref (a 24), .int (nI (ver + 1)), .int ew, .int (zk_b false)])), (a 20, .inl (g 0, 7, .inl (fun i => nI (zs_up P n p1 i)))), (a 21, .inl (g 0, 7, .inl (fun i => nI (zs_up S n q1 i)))), (a 22, .inl (g 0, 7, .inl (fun i => nI (zs_up Q n r1 i)))), (a 23, .inl (g 2, 3024, .inl (zs_clw T n 21)))]) rfl dX5_add_57 (fun H locs G => ?_)
    refine lv_aload_n Z.1 Z.2.1 dX5_add_60 rfl (lv_at hl 0 rfl) ?_
    refine zk_get (C := RX5) (T := TX5) (N := 11) (ci := 5) Z hK G hinX5 0 rfl rfl 3 (by decide) (List.mem_of_getElem? (i := 1) rfl) rfl (v := .int (nI (n + 1))) rfl dX5_add_61 ?_
    refine lv_iconst (v := nI 1) Z.1 Z.2.1 dX5_add_64 (by decide +kernel) ?_
    refine zk_isub Z dX5_add_65 (z := nI ((n + 1) - 1)) (pk_sub (by omega)) ?_
    exact zk_reti Z hR_ hlk hK hQ G () rfl rfl dX5_add_66
  exfalso
  have c6 : 7 ≤ n := zk_nlt (by omega) (by omega) c6
  omega

abbrev rm_X5_dropLast : Room := { frames := 2, cells := 0, slots := 0, locals := 44 }
theorem dvX5_dropLast : zk_dv yX5_dropLast RX5 0 := by decide +kernel
set_option maxRecDepth 100000 in
set_option maxHeartbeats 4000000 in
theorem ct_X5_dropLast (l : Launch) (D : va_G) (g : Nat → ClassId) (τ : Nat → Nat) (a : Nat → Nat) (n : Nat) (hide : Nat) (ver : Nat) (ew : Int32) (ek : Bool) (T : Nat → Int32) (hn : 1 ≤ n) (hn2 : n ≤ 7) : zk_MV l D g τ yX5_dropLast wsX5_dropLast rm_X5_dropLast [.ref (a 2)] [(a 2, .inr (5, [.ref (a 20), .ref (a 21), .ref (a 22), .int (nI n), .int (nI hide), .ref (a 1), .ref (a 23), .ref (a 24), .int (nI ver), .int ew, .int (zk_b ek)])), (a 23, .inl (g 2, 3024, .inl T))] (fun (_ : Unit) => True) (fun (_ : Unit) => [(a 2, .inr (5, [.ref (a 20), .ref (a 21), .ref (a 22), .int (nI (n - 1)), .int (nI hide), .ref (a 1), .ref (a 23), .ref (a 24), .int (nI (ver + 1)), .int ew, .int (zk_b false)])), (a 23, .inl (g 2, 3024, .inl (zs_clw T (n - 1) 21)))]) := by
  refine zk_of (Qc := fun A => va_Qv (fun (_ : Unit) => True) (zk_B D g A (fun (_ : Unit) => [(a 2, .inr (5, [.ref (a 20), .ref (a 21), .ref (a 22), .int (nI (n - 1)), .int (nI hide), .ref (a 1), .ref (a 23), .ref (a 24), .int (nI (ver + 1)), .int ew, .int (zk_b false)])), (a 23, .inl (g 2, 3024, .inl (zs_clw T (n - 1) 21)))])) A) (cc := cX5_dropLast) (maxL := 1) (ret := none) (own := RX5) (by decide) rfl rfl (Nat.le_of_ble_eq_true rfl) ?_
  intro pP eE sS mM args below meth cC aA ls qQ Z hR_ hlk hnm hK hT hA hQ G hl
  have hinX5 : ∀ w ∈ u_ws RX5 TX5 11, w ∈ wsX5_dropLast := (fun _ h => List.mem_cons_of_mem _ (List.mem_append_right _ h))
  refine lv_aload_n Z.1 Z.2.1 dX5_dropLast_0 rfl (lv_at hl 0 rfl) ?_
  refine zk_get (C := RX5) (T := TX5) (N := 11) (ci := 5) Z hK G hinX5 0 rfl rfl 3 (by decide) (List.mem_of_getElem? (i := 1) rfl) rfl (v := .int (nI n)) rfl dX5_dropLast_1 ?_
  refine lv_if_le (tgt := 25) Z.1 Z.2.1 dX5_dropLast_4 (by decide) (fun c4 => ?_) (fun c4 => ?_)
  · exfalso
    have c4 : n ≤ 0 := zk_le (by omega) (by omega) c4
    omega
  have c4 : 0 < n := zk_nle (by omega) (by omega) c4
  refine lv_aload_n Z.1 Z.2.1 dX5_dropLast_7 rfl (lv_at hl 0 rfl) ?_
  refine lv_dup Z.1 Z.2.1 dX5_dropLast_8 rfl ?_
  refine zk_get (C := RX5) (T := TX5) (N := 11) (ci := 5) Z hK G hinX5 0 rfl rfl 3 (by decide) (List.mem_of_getElem? (i := 1) rfl) rfl (v := .int (nI n)) rfl dX5_dropLast_9 ?_
  refine lv_iconst (v := nI 1) Z.1 Z.2.1 dX5_dropLast_12 (by decide +kernel) ?_
  refine zk_isub Z dX5_dropLast_13 (z := nI (n - 1)) (pk_sub (by omega)) ?_
  refine zk_put tyX5 tyX5_ok nmX5 (C := RX5) (T := TX5) (N := 11) (ci := 5) Z hK G hinX5 0 rfl rfl 3 (by decide) (List.mem_of_getElem? (i := 1) rfl) rfl rfl rfl rfl (Nat.le_of_ble_eq_true rfl) (ws' := [(a 2, .inr (5, [.ref (a 20), .ref (a 21), .ref (a 22), .int (nI (n - 1)), .int (nI hide), .ref (a 1), .ref (a 23), .ref (a 24), .int (nI ver), .int ew, .int (zk_b ek)])), (a 23, .inl (g 2, 3024, .inl T))]) rfl dX5_dropLast_14 (fun H locs G => ?_)
  refine lv_aload_n Z.1 Z.2.1 dX5_dropLast_17 rfl (lv_at hl 0 rfl) ?_
  refine lv_aload_n Z.1 Z.2.1 dX5_dropLast_18 rfl (lv_at hl 0 rfl) ?_
  refine zk_get (C := RX5) (T := TX5) (N := 11) (ci := 5) Z hK G hinX5 0 rfl rfl 3 (by decide) (List.mem_of_getElem? (i := 1) rfl) rfl (v := .int (nI (n - 1))) rfl dX5_dropLast_19 ?_
  refine zk_cv (WF := fun (_ : Unit) => [(a 2, .inr (5, [.ref (a 20), .ref (a 21), .ref (a 22), .int (nI (n - 1)), .int (nI hide), .ref (a 1), .ref (a 23), .ref (a 24), .int (nI (ver + 1)), .int ew, .int (zk_b false)])), (a 23, .inl (g 2, 3024, .inl (zs_clw T (n - 1) 21)))]) (wr := []) ⟨rfl, rfl⟩ (zk_rv (As := [.int (nI (n - 1))]) (rest := []) (q0 := 0) (ci := 5) Z ((ct_X5_forgetWorld l D g τ a (n - 1) hide ver ew ek T (n - 1) (by omega)) H.size) hK hT hA G [0, 1] rfl (by decide) rfl rfl gX5_dropLast_X5_forgetWorld rfl dvX5_forgetWorld ⟨by decide, by decide⟩ rfl hl.1 rfl (Nat.le_of_ble_eq_true rfl) dX5_dropLast_22 ⟨Nat.zero_le _, Nat.zero_le _⟩) hA G [0, 1] [] [0, 1] rfl rfl (by decide) (by decide) (by decide) (fun _ => rfl) (fun _ H locs w_22 G => ?_)
  exact zk_retv Z hR_ hlk hK hQ G () trivial rfl dX5_dropLast_25

abbrev rm_X5_turnTo : Room := { frames := 2, cells := 0, slots := 0, locals := 43 }
theorem dvX5_turnTo : zk_dv yX5_turnTo RX5 1 := by decide +kernel
set_option maxRecDepth 100000 in
set_option maxHeartbeats 4000000 in
theorem ct_X5_turnTo (l : Launch) (D : va_G) (g : Nat → ClassId) (τ : Nat → Nat) (a : Nat → Nat) (n : Nat) (hide : Nat) (ver : Nat) (ew : Int32) (ek : Bool) (P : Nat → Nat) (S : Nat → Nat) (F : Nat → Nat) (t : Nat) (hW : zs_W n P S) (ht : t < 2 ^ 30) : zk_MV l D g τ yX5_turnTo wsX5_turnTo rm_X5_turnTo [.ref (a 2), .int (nI t)] [(a 2, .inr (5, [.ref (a 20), .ref (a 21), .ref (a 22), .int (nI n), .int (nI hide), .ref (a 1), .ref (a 23), .ref (a 24), .int (nI ver), .int ew, .int (zk_b ek)])), (a 20, .inl (g 0, 7, .inl (fun i => nI (P i)))), (a 21, .inl (g 0, 7, .inl (fun i => nI (S i)))), (a 24, .inl (g 0, 7, .inl (fun i => nI (F i))))] (fun (F1 : Nat → Nat) => ∀ i, i < n → F1 i = zs_ph P S i t) (fun (F1 : Nat → Nat) => [(a 2, .inr (5, [.ref (a 20), .ref (a 21), .ref (a 22), .int (nI n), .int (nI hide), .ref (a 1), .ref (a 23), .ref (a 24), .int (nI ver), .int ew, .int (zk_b ek)])), (a 20, .inl (g 0, 7, .inl (fun i => nI (P i)))), (a 21, .inl (g 0, 7, .inl (fun i => nI (S i)))), (a 24, .inl (g 0, 7, .inl (fun i => nI (F1 i))))]) := by
  refine zk_of (Qc := fun A => va_Qv (fun (F1 : Nat → Nat) => ∀ i, i < n → F1 i = zs_ph P S i t) (zk_B D g A (fun (F1 : Nat → Nat) => [(a 2, .inr (5, [.ref (a 20), .ref (a 21), .ref (a 22), .int (nI n), .int (nI hide), .ref (a 1), .ref (a 23), .ref (a 24), .int (nI ver), .int ew, .int (zk_b ek)])), (a 20, .inl (g 0, 7, .inl (fun i => nI (P i)))), (a 21, .inl (g 0, 7, .inl (fun i => nI (S i)))), (a 24, .inl (g 0, 7, .inl (fun i => nI (F1 i))))])) A) (cc := cX5_turnTo) (maxL := 3) (ret := none) (own := RX5) (by decide) rfl rfl (Nat.le_of_ble_eq_true rfl) ?_
  intro pP eE sS mM args below meth cC aA ls qQ Z hR_ hlk hnm hK hT hA hQ G hl
  have hinX5 : ∀ w ∈ u_ws RX5 TX5 11, w ∈ wsX5_turnTo := (fun _ h => List.mem_cons_of_mem _ (List.mem_append_right _ h))
  have hn := hW.1
  have G : zk_G D aA [(a 2, .inr (5, [.ref (a 20), .ref (a 21), .ref (a 22), .int (nI n), .int (nI hide), .ref (a 1), .ref (a 23), .ref (a 24), .int (nI ver), .int ew, .int (zk_b ek)])), (a 20, .inl (g 0, 7, .inl (fun i => nI (P i)))), (a 21, .inl (g 0, 7, .inl (fun i => nI (S i)))), (a 24, .inl (g 0, 7, .inl (fun k => nI (zs_fill (fun w => zs_ph P S w t) F 0 k))))] sS sS.heap [] := (by simp only [zs_fill_0]; exact G)
  refine lv_iconst (v := nI 0) Z.1 Z.2.1 dX5_turnTo_0 (by decide +kernel) ?_
  refine lv_istore_n (lv' := [(2, .int (nI 0)), (0, .ref (a 2)), (1, .int (nI t))]) Z.1 Z.2.1 dX5_turnTo_1 rfl hl (by decide) rfl (fun ls hl => ?_)
  have L2 : ∀ (N : Nat) (w : Nat), n - w < N → (w ≤ n) → ∀ (H : Heap) (locs : List Loc) (ls : Array Slot), zk_G D aA [(a 2, .inr (5, [.ref (a 20), .ref (a 21), .ref (a 22), .int (nI n), .int (nI hide), .ref (a 1), .ref (a 23), .ref (a 24), .int (nI ver), .int ew, .int (zk_b ek)])), (a 20, .inl (g 0, 7, .inl (fun i => nI (P i)))), (a 21, .inl (g 0, 7, .inl (fun i => nI (S i)))), (a 24, .inl (g 0, 7, .inl (fun k => nI (zs_fill (fun w => zs_ph P S w t) F w k))))] sS H locs → lv_has ls 3 [(0, .ref (a 2)), (1, .int (nI t)), (2, .int (nI w))] → W pP l eE rm_X5_turnTo sS mM args below meth cC H locs 0 0 qQ (F0 mM 2 ls []) := by
    intro N
    induction N with
    | zero => intros; omega
    | succ N ih2 =>
      intro w hμ h1 H locs ls G hl
      have hn := hW.1
      refine lv_iload_n Z.1 Z.2.1 dX5_turnTo_2 rfl (lv_at hl 2 rfl) ?_
      refine lv_aload_n Z.1 Z.2.1 dX5_turnTo_3 rfl (lv_at hl 0 rfl) ?_
      refine zk_get (C := RX5) (T := TX5) (N := 11) (ci := 5) Z hK G hinX5 0 rfl rfl 3 (by decide) (List.mem_of_getElem? (i := 1) rfl) rfl (v := .int (nI n)) rfl dX5_turnTo_4 ?_
      refine lv_icmp_ge (tgt := 28) Z.1 Z.2.1 dX5_turnTo_7 (by decide) (fun c7 => ?_) (fun c7 => ?_)
      · have c7 : n ≤ w := zk_le (by omega) (by omega) c7
        exact zk_retv Z hR_ hlk hK hQ G (zs_fill (fun w => zs_ph P S w t) F w) (fun i hi => by simp only [zs_fill]; rw [if_pos (by omega)]) rfl dX5_turnTo_28
      have c7 : w < n := zk_nle (by omega) (by omega) c7
      have hq := hW.2 w c7
      refine lv_aload_n Z.1 Z.2.1 dX5_turnTo_10 rfl (lv_at hl 0 rfl) ?_
      refine zk_get (C := RX5) (T := TX5) (N := 11) (ci := 5) Z hK G hinX5 0 rfl rfl 7 (by decide) (List.mem_of_getElem? (i := 2) rfl) rfl (v := .ref (a 24)) rfl dX5_turnTo_11 ?_
      refine lv_iload_n Z.1 Z.2.1 dX5_turnTo_14 rfl (lv_at hl 2 rfl) ?_
      refine lv_aload_n Z.1 Z.2.1 dX5_turnTo_15 rfl (lv_at hl 0 rfl) ?_
      refine lv_iload_n Z.1 Z.2.1 dX5_turnTo_16 rfl (lv_at hl 2 rfl) ?_
      refine lv_iload_n Z.1 Z.2.1 dX5_turnTo_17 rfl (lv_at hl 1 rfl) ?_
      refine zk_ci (WF := fun (_ : Unit) => [(a 2, .inr (5, [.ref (a 20), .ref (a 21), .ref (a 22), .int (nI n), .int (nI hide), .ref (a 1), .ref (a 23), .ref (a 24), .int (nI ver), .int ew, .int (zk_b ek)])), (a 20, .inl (g 0, 7, .inl (fun i => nI (P i)))), (a 21, .inl (g 0, 7, .inl (fun i => nI (S i)))), (a 24, .inl (g 0, 7, .inl (fun k => nI (zs_fill (fun w => zs_ph P S w t) F w k))))]) (wr := [(a 24, .inl (g 0, 7, .inl (fun k => nI (zs_fill (fun w => zs_ph P S w t) F w k))))]) ⟨rfl, rfl⟩ (zk_rv (As := [.int (nI w), .int (nI t)]) (rest := [.int (nI w), .ref (a 24)]) (q0 := 0) (ci := 5) Z ((ct_X5_phase l D g τ a n hide ver ew ek P S w t (by omega) (by omega) (by omega) (by omega) (by omega)) H.size) hK hT hA G [0, 1, 2] rfl (by decide) rfl rfl gX5_turnTo_X5_phase rfl dvX5_phase ⟨by decide, by decide⟩ rfl hl.1 rfl (Nat.le_of_ble_eq_true rfl) dX5_turnTo_18 ⟨Nat.zero_le _, Nat.zero_le _⟩) hA G [0, 1, 2] [3] [1, 2, 3, 0] rfl rfl (by decide) (by decide) (by decide) (fun _ => rfl) (fun r_18 _ H locs w_18 G => ?_)
      obtain rfl : r_18 = nI (zs_ph P S w t) := w_18
      refine zk_iast Z hK G 3 rfl (k := w) (by omega) (by decide) (zs_fill_n _ _ _) (ws' := [(a 2, .inr (5, [.ref (a 20), .ref (a 21), .ref (a 22), .int (nI n), .int (nI hide), .ref (a 1), .ref (a 23), .ref (a 24), .int (nI ver), .int ew, .int (zk_b ek)])), (a 20, .inl (g 0, 7, .inl (fun i => nI (P i)))), (a 21, .inl (g 0, 7, .inl (fun i => nI (S i)))), (a 24, .inl (g 0, 7, .inl (fun k => nI (zs_fill (fun w => zs_ph P S w t) F (w + 1) k))))]) rfl dX5_turnTo_21 (fun H locs G => ?_)
      refine lv_iinc (v := nI (w + 1)) (lv' := [(2, .int (nI (w + 1))), (0, .ref (a 2)), (1, .int (nI t))]) Z.1 Z.2.1 dX5_turnTo_22 hl (k := 2) rfl (zk_inc w 1) (by decide) rfl (fun ls hl => ?_)
      refine lv_goto (tgt := 2) Z.1 Z.2.1 dX5_turnTo_25 (by decide) ?_
      exact ih2 (w + 1) (by omega) (by omega) _ _ _ G (lv_sub hl [1, 2, 0] rfl)
  exact L2 _ 0 (Nat.lt_succ_self _) (by omega) _ _ _ G (lv_sub hl [1, 2, 0] rfl)

abbrev rm_X5_forward : Room := { frames := 0, cells := 0, slots := 0, locals := 0 }
theorem dvX5_forward : zk_dv yX5_forward RX5 0 := by decide +kernel
set_option maxRecDepth 100000 in
set_option maxHeartbeats 4000000 in
theorem ct_X5_forward (l : Launch) (D : va_G) (g : Nat → ClassId) (τ : Nat → Nat) (a : Nat → Nat) (n : Nat) (hide : Nat) (ver : Nat) (ew : Int32) (ek : Bool) (P : Nat → Nat) (S : Nat → Nat) (F : Nat → Nat) (t : Nat) (hW : zs_W n P S) (hF : ∀ i, i < n → F i = zs_ph P S i t) : zk_MV l D g τ yX5_forward wsX5_forward rm_X5_forward [.ref (a 2)] [(a 2, .inr (5, [.ref (a 20), .ref (a 21), .ref (a 22), .int (nI n), .int (nI hide), .ref (a 1), .ref (a 23), .ref (a 24), .int (nI ver), .int ew, .int (zk_b ek)])), (a 20, .inl (g 0, 7, .inl (fun i => nI (P i)))), (a 24, .inl (g 0, 7, .inl (fun i => nI (F i))))] (fun (F1 : Nat → Nat) => ∀ i, i < n → F1 i = zs_ph P S i (t + 1)) (fun (F1 : Nat → Nat) => [(a 2, .inr (5, [.ref (a 20), .ref (a 21), .ref (a 22), .int (nI n), .int (nI hide), .ref (a 1), .ref (a 23), .ref (a 24), .int (nI ver), .int ew, .int (zk_b ek)])), (a 20, .inl (g 0, 7, .inl (fun i => nI (P i)))), (a 24, .inl (g 0, 7, .inl (fun i => nI (F1 i))))]) := by
  refine zk_of (Qc := fun A => va_Qv (fun (F1 : Nat → Nat) => ∀ i, i < n → F1 i = zs_ph P S i (t + 1)) (zk_B D g A (fun (F1 : Nat → Nat) => [(a 2, .inr (5, [.ref (a 20), .ref (a 21), .ref (a 22), .int (nI n), .int (nI hide), .ref (a 1), .ref (a 23), .ref (a 24), .int (nI ver), .int ew, .int (zk_b ek)])), (a 20, .inl (g 0, 7, .inl (fun i => nI (P i)))), (a 24, .inl (g 0, 7, .inl (fun i => nI (F1 i))))])) A) (cc := cX5_forward) (maxL := 3) (ret := none) (own := RX5) (by decide) rfl rfl (Nat.le_of_ble_eq_true rfl) ?_
  intro pP eE sS mM args below meth cC aA ls qQ Z hR_ hlk hnm hK hT hA hQ G hl
  have hinX5 : ∀ w ∈ u_ws RX5 TX5 11, w ∈ wsX5_forward := (fun _ h => List.mem_cons_of_mem _ (List.mem_append_right _ h))
  have hn := hW.1
  have G : zk_G D aA [(a 2, .inr (5, [.ref (a 20), .ref (a 21), .ref (a 22), .int (nI n), .int (nI hide), .ref (a 1), .ref (a 23), .ref (a 24), .int (nI ver), .int ew, .int (zk_b ek)])), (a 20, .inl (g 0, 7, .inl (fun i => nI (P i)))), (a 24, .inl (g 0, 7, .inl (fun k => nI (zs_fill (zs_fw P F) F 0 k))))] sS sS.heap [] := (by simp only [zs_fill_0]; exact G)
  refine lv_iconst (v := nI 0) Z.1 Z.2.1 dX5_forward_0 (by decide +kernel) ?_
  refine lv_istore_n (lv' := [(1, .int (nI 0)), (0, .ref (a 2))]) Z.1 Z.2.1 dX5_forward_1 rfl hl (by decide) rfl (fun ls hl => ?_)
  have L2 : ∀ (N : Nat) (w : Nat), n - w < N → (w ≤ n) → ∀ (H : Heap) (locs : List Loc) (ls : Array Slot), zk_G D aA [(a 2, .inr (5, [.ref (a 20), .ref (a 21), .ref (a 22), .int (nI n), .int (nI hide), .ref (a 1), .ref (a 23), .ref (a 24), .int (nI ver), .int ew, .int (zk_b ek)])), (a 20, .inl (g 0, 7, .inl (fun i => nI (P i)))), (a 24, .inl (g 0, 7, .inl (fun k => nI (zs_fill (zs_fw P F) F w k))))] sS H locs → lv_has ls 3 [(0, .ref (a 2)), (1, .int (nI w))] → W pP l eE rm_X5_forward sS mM args below meth cC H locs 0 0 qQ (F0 mM 2 ls []) := by
    intro N
    induction N with
    | zero => intros; omega
    | succ N ih2 =>
      intro w hμ h1 H locs ls G hl
      have hn := hW.1
      refine lv_iload_n Z.1 Z.2.1 dX5_forward_2 rfl (lv_at hl 1 rfl) ?_
      refine lv_aload_n Z.1 Z.2.1 dX5_forward_3 rfl (lv_at hl 0 rfl) ?_
      refine zk_get (C := RX5) (T := TX5) (N := 11) (ci := 5) Z hK G hinX5 0 rfl rfl 3 (by decide) (List.mem_of_getElem? (i := 1) rfl) rfl (v := .int (nI n)) rfl dX5_forward_4 ?_
      refine lv_icmp_ge (tgt := 46) Z.1 Z.2.1 dX5_forward_7 (by decide) (fun c7 => ?_) (fun c7 => ?_)
      · have c7 : n ≤ w := zk_le (by omega) (by omega) c7
        exact zk_retv Z hR_ hlk hK hQ G (zs_fill (zs_fw P F) F w) (fun i hi => by simp only [zs_fill]; rw [if_pos (by omega)]; exact zs_fw_at (hW.2 i hi).1 (hF i hi)) rfl dX5_forward_46
      have c7 : w < n := zk_nle (by omega) (by omega) c7
      have hq := hW.2 w c7
      have hq2 := hF w c7
      have hq3 : zs_ph P S w t < P w := zs_ph_lt hq.1
      have e15 : zs_fill (zs_fw P F) F w w = F w := by simp [zs_fill]
      refine lv_aload_n Z.1 Z.2.1 dX5_forward_10 rfl (lv_at hl 0 rfl) ?_
      refine zk_get (C := RX5) (T := TX5) (N := 11) (ci := 5) Z hK G hinX5 0 rfl rfl 7 (by decide) (List.mem_of_getElem? (i := 2) rfl) rfl (v := .ref (a 24)) rfl dX5_forward_11 ?_
      refine lv_iload_n Z.1 Z.2.1 dX5_forward_14 rfl (lv_at hl 1 rfl) ?_
      refine zk_iald Z hK G 2 rfl (k := w) (by omega) (by decide) (v := nI (F w)) (by rw [e15]) dX5_forward_15 ?_
      refine lv_iconst (v := nI 1) Z.1 Z.2.1 dX5_forward_16 (by decide +kernel) ?_
      refine zk_iadd Z dX5_forward_17 (z := nI (F w + 1)) (nI_add _ _) ?_
      refine lv_istore_n (lv' := [(2, .int (nI (F w + 1))), (0, .ref (a 2)), (1, .int (nI w))]) Z.1 Z.2.1 dX5_forward_18 rfl hl (by decide) rfl (fun ls hl => ?_)
      refine lv_aload_n Z.1 Z.2.1 dX5_forward_19 rfl (lv_at hl 1 rfl) ?_
      refine zk_get (C := RX5) (T := TX5) (N := 11) (ci := 5) Z hK G hinX5 0 rfl rfl 7 (by decide) (List.mem_of_getElem? (i := 2) rfl) rfl (v := .ref (a 24)) rfl dX5_forward_20 ?_
      refine lv_iload_n Z.1 Z.2.1 dX5_forward_23 rfl (lv_at hl 2 rfl) ?_
      refine lv_iload_n Z.1 Z.2.1 dX5_forward_24 rfl (lv_at hl 0 rfl) ?_
      refine lv_aload_n Z.1 Z.2.1 dX5_forward_25 rfl (lv_at hl 1 rfl) ?_
      refine zk_get (C := RX5) (T := TX5) (N := 11) (ci := 5) Z hK G hinX5 0 rfl rfl 0 (by decide) (List.mem_of_getElem? (i := 3) rfl) rfl (v := .ref (a 20)) rfl dX5_forward_26 ?_
      refine lv_iload_n Z.1 Z.2.1 dX5_forward_29 rfl (lv_at hl 2 rfl) ?_
      refine zk_iald Z hK G 1 rfl (k := w) (by omega) (by decide) (v := nI (P w)) rfl dX5_forward_30 ?_
      refine lv_icmp_ge (tgt := 38) Z.1 Z.2.1 dX5_forward_31 (by decide) (fun c31 => ?_) (fun c31 => ?_)
      · have c31 : P w ≤ F w + 1 := zk_le (by omega) (by omega) c31
        refine lv_iconst (v := nI 0) Z.1 Z.2.1 dX5_forward_38 (by decide +kernel) ?_
        refine zk_iast Z hK G 2 rfl (k := w) (by omega) (by decide) (by rw [← zs_fill_n]; congr 1; simp only [zs_fw]; rw [if_neg (by omega)]) (ws' := [(a 2, .inr (5, [.ref (a 20), .ref (a 21), .ref (a 22), .int (nI n), .int (nI hide), .ref (a 1), .ref (a 23), .ref (a 24), .int (nI ver), .int ew, .int (zk_b ek)])), (a 20, .inl (g 0, 7, .inl (fun i => nI (P i)))), (a 24, .inl (g 0, 7, .inl (fun k => nI (zs_fill (zs_fw P F) F (w + 1) k))))]) rfl dX5_forward_39 (fun H locs G => ?_)
        refine lv_iinc (v := nI (w + 1)) (lv' := [(1, .int (nI (w + 1))), (2, .int (nI (F w + 1))), (0, .ref (a 2))]) Z.1 Z.2.1 dX5_forward_40 hl (k := 2) rfl (zk_inc w 1) (by decide) rfl (fun ls hl => ?_)
        refine lv_goto (tgt := 2) Z.1 Z.2.1 dX5_forward_43 (by decide) ?_
        exact ih2 (w + 1) (by omega) (by omega) _ _ _ G (lv_sub hl [2, 0] rfl)
      have c31 : F w + 1 < P w := zk_nle (by omega) (by omega) c31
      refine lv_iload_n Z.1 Z.2.1 dX5_forward_34 rfl (lv_at hl 0 rfl) ?_
      refine lv_goto (tgt := 39) Z.1 Z.2.1 dX5_forward_35 (by decide) ?_
      refine zk_iast Z hK G 2 rfl (k := w) (by omega) (by decide) (by rw [← zs_fill_n]; congr 1; simp only [zs_fw]; rw [if_pos (by omega)]) (ws' := [(a 2, .inr (5, [.ref (a 20), .ref (a 21), .ref (a 22), .int (nI n), .int (nI hide), .ref (a 1), .ref (a 23), .ref (a 24), .int (nI ver), .int ew, .int (zk_b ek)])), (a 20, .inl (g 0, 7, .inl (fun i => nI (P i)))), (a 24, .inl (g 0, 7, .inl (fun k => nI (zs_fill (zs_fw P F) F (w + 1) k))))]) rfl dX5_forward_39 (fun H locs G => ?_)
      refine lv_iinc (v := nI (w + 1)) (lv' := [(1, .int (nI (w + 1))), (2, .int (nI (F w + 1))), (0, .ref (a 2))]) Z.1 Z.2.1 dX5_forward_40 hl (k := 2) rfl (zk_inc w 1) (by decide) rfl (fun ls hl => ?_)
      refine lv_goto (tgt := 2) Z.1 Z.2.1 dX5_forward_43 (by decide) ?_
      exact ih2 (w + 1) (by omega) (by omega) _ _ _ G (lv_sub hl [2, 0] rfl)
  exact L2 _ 0 (Nat.lt_succ_self _) (by omega) _ _ _ G (lv_sub hl [1, 0] rfl)

abbrev rm_X5_backward : Room := { frames := 0, cells := 0, slots := 0, locals := 0 }
theorem dvX5_backward : zk_dv yX5_backward RX5 0 := by decide +kernel
set_option maxRecDepth 100000 in
set_option maxHeartbeats 4000000 in
theorem ct_X5_backward (l : Launch) (D : va_G) (g : Nat → ClassId) (τ : Nat → Nat) (a : Nat → Nat) (n : Nat) (hide : Nat) (ver : Nat) (ew : Int32) (ek : Bool) (P : Nat → Nat) (S : Nat → Nat) (F : Nat → Nat) (hW : zs_W n P S) (hF : ∀ i, i < n → F i < P i) : zk_MV l D g τ yX5_backward wsX5_backward rm_X5_backward [.ref (a 2)] [(a 2, .inr (5, [.ref (a 20), .ref (a 21), .ref (a 22), .int (nI n), .int (nI hide), .ref (a 1), .ref (a 23), .ref (a 24), .int (nI ver), .int ew, .int (zk_b ek)])), (a 20, .inl (g 0, 7, .inl (fun i => nI (P i)))), (a 24, .inl (g 0, 7, .inl (fun i => nI (F i))))] (fun (F1 : Nat → Nat) => (∀ i, i < n → F1 i < P i) ∧ ∀ t, (∀ i, i < n → F i = zs_ph P S i (t + 1)) → ∀ i, i < n → F1 i = zs_ph P S i t) (fun (F1 : Nat → Nat) => [(a 2, .inr (5, [.ref (a 20), .ref (a 21), .ref (a 22), .int (nI n), .int (nI hide), .ref (a 1), .ref (a 23), .ref (a 24), .int (nI ver), .int ew, .int (zk_b ek)])), (a 20, .inl (g 0, 7, .inl (fun i => nI (P i)))), (a 24, .inl (g 0, 7, .inl (fun i => nI (F1 i))))]) := by
  refine zk_of (Qc := fun A => va_Qv (fun (F1 : Nat → Nat) => (∀ i, i < n → F1 i < P i) ∧ ∀ t, (∀ i, i < n → F i = zs_ph P S i (t + 1)) → ∀ i, i < n → F1 i = zs_ph P S i t) (zk_B D g A (fun (F1 : Nat → Nat) => [(a 2, .inr (5, [.ref (a 20), .ref (a 21), .ref (a 22), .int (nI n), .int (nI hide), .ref (a 1), .ref (a 23), .ref (a 24), .int (nI ver), .int ew, .int (zk_b ek)])), (a 20, .inl (g 0, 7, .inl (fun i => nI (P i)))), (a 24, .inl (g 0, 7, .inl (fun i => nI (F1 i))))])) A) (cc := cX5_backward) (maxL := 2) (ret := none) (own := RX5) (by decide) rfl rfl (Nat.le_of_ble_eq_true rfl) ?_
  intro pP eE sS mM args below meth cC aA ls qQ Z hR_ hlk hnm hK hT hA hQ G hl
  have hinX5 : ∀ w ∈ u_ws RX5 TX5 11, w ∈ wsX5_backward := (fun _ h => List.mem_cons_of_mem _ (List.mem_append_right _ h))
  have hn := hW.1
  have G : zk_G D aA [(a 2, .inr (5, [.ref (a 20), .ref (a 21), .ref (a 22), .int (nI n), .int (nI hide), .ref (a 1), .ref (a 23), .ref (a 24), .int (nI ver), .int ew, .int (zk_b ek)])), (a 20, .inl (g 0, 7, .inl (fun i => nI (P i)))), (a 24, .inl (g 0, 7, .inl (fun k => nI (zs_fill (zs_bw P F) F 0 k))))] sS sS.heap [] := (by simp only [zs_fill_0]; exact G)
  refine lv_iconst (v := nI 0) Z.1 Z.2.1 dX5_backward_0 (by decide +kernel) ?_
  refine lv_istore_n (lv' := [(1, .int (nI 0)), (0, .ref (a 2))]) Z.1 Z.2.1 dX5_backward_1 rfl hl (by decide) rfl (fun ls hl => ?_)
  have L2 : ∀ (N : Nat) (w : Nat), n - w < N → (w ≤ n) → ∀ (H : Heap) (locs : List Loc) (ls : Array Slot), zk_G D aA [(a 2, .inr (5, [.ref (a 20), .ref (a 21), .ref (a 22), .int (nI n), .int (nI hide), .ref (a 1), .ref (a 23), .ref (a 24), .int (nI ver), .int ew, .int (zk_b ek)])), (a 20, .inl (g 0, 7, .inl (fun i => nI (P i)))), (a 24, .inl (g 0, 7, .inl (fun k => nI (zs_fill (zs_bw P F) F w k))))] sS H locs → lv_has ls 2 [(0, .ref (a 2)), (1, .int (nI w))] → W pP l eE rm_X5_backward sS mM args below meth cC H locs 0 0 qQ (F0 mM 2 ls []) := by
    intro N
    induction N with
    | zero => intros; omega
    | succ N ih2 =>
      intro w hμ h1 H locs ls G hl
      have hn := hW.1
      refine lv_iload_n Z.1 Z.2.1 dX5_backward_2 rfl (lv_at hl 1 rfl) ?_
      refine lv_aload_n Z.1 Z.2.1 dX5_backward_3 rfl (lv_at hl 0 rfl) ?_
      refine zk_get (C := RX5) (T := TX5) (N := 11) (ci := 5) Z hK G hinX5 0 rfl rfl 3 (by decide) (List.mem_of_getElem? (i := 1) rfl) rfl (v := .int (nI n)) rfl dX5_backward_4 ?_
      refine lv_icmp_ge (tgt := 50) Z.1 Z.2.1 dX5_backward_7 (by decide) (fun c7 => ?_) (fun c7 => ?_)
      · have c7 : n ≤ w := zk_le (by omega) (by omega) c7
        exact zk_retv Z hR_ hlk hK hQ G (zs_fill (zs_bw P F) F w) ⟨fun i hi => by
              have h2 := hW.2 i hi
              have h3 := hF i hi
              simp only [zs_fill]; rw [if_pos (by omega)]; simp only [zs_bw]; split <;> omega, fun t ht i hi => by simp only [zs_fill]; rw [if_pos (by omega)]; exact zs_bw_at (hW.2 i hi).1 (ht i hi)⟩ rfl dX5_backward_50
      have c7 : w < n := zk_nle (by omega) (by omega) c7
      have hq := hW.2 w c7
      have hq2 := hF w c7
      have e15 : zs_fill (zs_bw P F) F w w = F w := by simp [zs_fill]
      refine lv_aload_n Z.1 Z.2.1 dX5_backward_10 rfl (lv_at hl 0 rfl) ?_
      refine zk_get (C := RX5) (T := TX5) (N := 11) (ci := 5) Z hK G hinX5 0 rfl rfl 7 (by decide) (List.mem_of_getElem? (i := 2) rfl) rfl (v := .ref (a 24)) rfl dX5_backward_11 ?_
      refine lv_iload_n Z.1 Z.2.1 dX5_backward_14 rfl (lv_at hl 1 rfl) ?_
      refine lv_aload_n Z.1 Z.2.1 dX5_backward_15 rfl (lv_at hl 0 rfl) ?_
      refine zk_get (C := RX5) (T := TX5) (N := 11) (ci := 5) Z hK G hinX5 0 rfl rfl 7 (by decide) (List.mem_of_getElem? (i := 2) rfl) rfl (v := .ref (a 24)) rfl dX5_backward_16 ?_
      refine lv_iload_n Z.1 Z.2.1 dX5_backward_19 rfl (lv_at hl 1 rfl) ?_
      refine zk_iald Z hK G 2 rfl (k := w) (by omega) (by decide) (v := nI (F w)) (by rw [e15]) dX5_backward_20 ?_
      refine lv_if_le (tgt := 35) Z.1 Z.2.1 dX5_backward_21 (by decide) (fun c21 => ?_) (fun c21 => ?_)
      · have c21 : F w ≤ 0 := zk_le (by omega) (by omega) c21
        refine lv_aload_n Z.1 Z.2.1 dX5_backward_35 rfl (lv_at hl 0 rfl) ?_
        refine zk_get (C := RX5) (T := TX5) (N := 11) (ci := 5) Z hK G hinX5 0 rfl rfl 0 (by decide) (List.mem_of_getElem? (i := 3) rfl) rfl (v := .ref (a 20)) rfl dX5_backward_36 ?_
        refine lv_iload_n Z.1 Z.2.1 dX5_backward_39 rfl (lv_at hl 1 rfl) ?_
        refine zk_iald Z hK G 1 rfl (k := w) (by omega) (by decide) (v := nI (P w)) rfl dX5_backward_40 ?_
        refine lv_iconst (v := nI 1) Z.1 Z.2.1 dX5_backward_41 (by decide +kernel) ?_
        refine zk_isub Z dX5_backward_42 (z := nI ((P w) - 1)) (pk_sub (by omega)) ?_
        refine zk_iast Z hK G 2 rfl (k := w) (by omega) (by decide) (by rw [← zs_fill_n]; congr 1; simp only [zs_bw]; rw [if_neg (by omega)]) (ws' := [(a 2, .inr (5, [.ref (a 20), .ref (a 21), .ref (a 22), .int (nI n), .int (nI hide), .ref (a 1), .ref (a 23), .ref (a 24), .int (nI ver), .int ew, .int (zk_b ek)])), (a 20, .inl (g 0, 7, .inl (fun i => nI (P i)))), (a 24, .inl (g 0, 7, .inl (fun k => nI (zs_fill (zs_bw P F) F (w + 1) k))))]) rfl dX5_backward_43 (fun H locs G => ?_)
        refine lv_iinc (v := nI (w + 1)) (lv' := [(1, .int (nI (w + 1))), (0, .ref (a 2))]) Z.1 Z.2.1 dX5_backward_44 hl (k := 1) rfl (zk_inc w 1) (by decide) rfl (fun ls hl => ?_)
        refine lv_goto (tgt := 2) Z.1 Z.2.1 dX5_backward_47 (by decide) ?_
        exact ih2 (w + 1) (by omega) (by omega) _ _ _ G (lv_sub hl [1, 0] rfl)
      have c21 : 0 < F w := zk_nle (by omega) (by omega) c21
      refine lv_aload_n Z.1 Z.2.1 dX5_backward_24 rfl (lv_at hl 0 rfl) ?_
      refine zk_get (C := RX5) (T := TX5) (N := 11) (ci := 5) Z hK G hinX5 0 rfl rfl 7 (by decide) (List.mem_of_getElem? (i := 2) rfl) rfl (v := .ref (a 24)) rfl dX5_backward_25 ?_
      refine lv_iload_n Z.1 Z.2.1 dX5_backward_28 rfl (lv_at hl 1 rfl) ?_
      refine zk_iald Z hK G 2 rfl (k := w) (by omega) (by decide) (v := nI (F w)) (by rw [e15]) dX5_backward_29 ?_
      refine lv_iconst (v := nI 1) Z.1 Z.2.1 dX5_backward_30 (by decide +kernel) ?_
      refine zk_isub Z dX5_backward_31 (z := nI ((F w) - 1)) (pk_sub (by omega)) ?_
      refine lv_goto (tgt := 43) Z.1 Z.2.1 dX5_backward_32 (by decide) ?_
      refine zk_iast Z hK G 2 rfl (k := w) (by omega) (by decide) (by rw [← zs_fill_n]; congr 1; simp only [zs_bw]; rw [if_pos (by omega)]) (ws' := [(a 2, .inr (5, [.ref (a 20), .ref (a 21), .ref (a 22), .int (nI n), .int (nI hide), .ref (a 1), .ref (a 23), .ref (a 24), .int (nI ver), .int ew, .int (zk_b ek)])), (a 20, .inl (g 0, 7, .inl (fun i => nI (P i)))), (a 24, .inl (g 0, 7, .inl (fun k => nI (zs_fill (zs_bw P F) F (w + 1) k))))]) rfl dX5_backward_43 (fun H locs G => ?_)
      refine lv_iinc (v := nI (w + 1)) (lv' := [(1, .int (nI (w + 1))), (0, .ref (a 2))]) Z.1 Z.2.1 dX5_backward_44 hl (k := 1) rfl (zk_inc w 1) (by decide) rfl (fun ls hl => ?_)
      refine lv_goto (tgt := 2) Z.1 Z.2.1 dX5_backward_47 (by decide) ?_
      exact ih2 (w + 1) (by omega) (by omega) _ _ _ G (lv_sub hl [1, 0] rfl)
  exact L2 _ 0 (Nat.lt_succ_self _) (by omega) _ _ _ G (lv_sub hl [1, 0] rfl)

abbrev rm_X5_round : Room := { frames := 2, cells := 0, slots := 0, locals := 48 }
theorem dvX5_round : zk_dv yX5_round RX5 0 := by decide +kernel
set_option maxRecDepth 100000 in
set_option maxHeartbeats 4000000 in
theorem ct_X5_round (l : Launch) (D : va_G) (g : Nat → ClassId) (τ : Nat → Nat) (a : Nat → Nat) (n : Nat) (hide : Nat) (ver : Nat) (ew : Int32) (ek : Bool) (P : Nat → Nat) (hn : n ≤ 7) (hP : ∀ i, i < n → 1 ≤ P i ∧ P i ≤ 12) : zk_MI l D g τ yX5_round wsX5_round rm_X5_round [.ref (a 2)] [(a 2, .inr (5, [.ref (a 20), .ref (a 21), .ref (a 22), .int (nI n), .int (nI hide), .ref (a 1), .ref (a 23), .ref (a 24), .int (nI ver), .int ew, .int (zk_b ek)])), (a 20, .inl (g 0, 7, .inl (fun i => nI (P i))))] (fun (r : Int32) (_ : Unit) => r = nI (zs_rnd P n)) (fun (_ : Unit) => [(a 2, .inr (5, [.ref (a 20), .ref (a 21), .ref (a 22), .int (nI n), .int (nI hide), .ref (a 1), .ref (a 23), .ref (a 24), .int (nI ver), .int ew, .int (zk_b ek)])), (a 20, .inl (g 0, 7, .inl (fun i => nI (P i))))]) := by
  refine zk_of (Qc := fun A => va_Qi (fun (r : Int32) (_ : Unit) => r = nI (zs_rnd P n)) (zk_B D g A (fun (_ : Unit) => [(a 2, .inr (5, [.ref (a 20), .ref (a 21), .ref (a 22), .int (nI n), .int (nI hide), .ref (a 1), .ref (a 23), .ref (a 24), .int (nI ver), .int ew, .int (zk_b ek)])), (a 20, .inl (g 0, 7, .inl (fun i => nI (P i))))])) A) (cc := cX5_round) (maxL := 3) (ret := (some .int)) (own := RX5) (by decide) rfl rfl (Nat.le_of_ble_eq_true rfl) ?_
  intro pP eE sS mM args below meth cC aA ls qQ Z hR_ hlk hnm hK hT hA hQ G hl
  have hinX5 : ∀ w ∈ u_ws RX5 TX5 11, w ∈ wsX5_round := (fun _ h => List.mem_cons_of_mem _ (List.mem_append_right _ h))
  refine lv_iconst (v := nI 1) Z.1 Z.2.1 dX5_round_0 (by decide +kernel) ?_
  refine lv_istore_n (lv' := [(1, .int (nI 1)), (0, .ref (a 2))]) Z.1 Z.2.1 dX5_round_1 rfl hl (by decide) rfl (fun ls hl => ?_)
  refine lv_iconst (v := nI 0) Z.1 Z.2.1 dX5_round_2 (by decide +kernel) ?_
  refine lv_istore_n (lv' := [(2, .int (nI 0)), (1, .int (nI 1)), (0, .ref (a 2))]) Z.1 Z.2.1 dX5_round_3 rfl hl (by decide) rfl (fun ls hl => ?_)
  have L4 : ∀ (N : Nat) (w : Nat), n - w < N → (w ≤ n) → ∀ (H : Heap) (locs : List Loc) (ls : Array Slot), zk_G D aA [(a 2, .inr (5, [.ref (a 20), .ref (a 21), .ref (a 22), .int (nI n), .int (nI hide), .ref (a 1), .ref (a 23), .ref (a 24), .int (nI ver), .int ew, .int (zk_b ek)])), (a 20, .inl (g 0, 7, .inl (fun i => nI (P i))))] sS H locs → lv_has ls 3 [(0, .ref (a 2)), (1, .int (nI (zs_rnd P w))), (2, .int (nI w))] → W pP l eE rm_X5_round sS mM args below meth cC H locs 0 0 qQ (F0 mM 4 ls []) := by
    intro N
    induction N with
    | zero => intros; omega
    | succ N ih4 =>
      intro w hμ h1 H locs ls G hl
      have hr := zs_rnd_in (P := P) (n := w) (fun i hi => hP i (by omega))
      refine lv_iload_n Z.1 Z.2.1 dX5_round_4 rfl (lv_at hl 2 rfl) ?_
      refine lv_aload_n Z.1 Z.2.1 dX5_round_5 rfl (lv_at hl 0 rfl) ?_
      refine zk_get (C := RX5) (T := TX5) (N := 11) (ci := 5) Z hK G hinX5 0 rfl rfl 3 (by decide) (List.mem_of_getElem? (i := 1) rfl) rfl (v := .int (nI n)) rfl dX5_round_6 ?_
      refine lv_icmp_ge (tgt := 29) Z.1 Z.2.1 dX5_round_9 (by decide) (fun c9 => ?_) (fun c9 => ?_)
      · have c9 : n ≤ w := zk_le (by omega) (by omega) c9
        refine lv_iload_n Z.1 Z.2.1 dX5_round_29 rfl (lv_at hl 1 rfl) ?_
        exact zk_reti Z hR_ hlk hK hQ G () (by rw [show w = n by omega]) rfl dX5_round_30
      have c9 : w < n := zk_nle (by omega) (by omega) c9
      have hq := hP w c9
      refine lv_iload_n Z.1 Z.2.1 dX5_round_12 rfl (lv_at hl 1 rfl) ?_
      refine lv_aload_n Z.1 Z.2.1 dX5_round_13 rfl (lv_at hl 0 rfl) ?_
      refine zk_get (C := RX5) (T := TX5) (N := 11) (ci := 5) Z hK G hinX5 0 rfl rfl 0 (by decide) (List.mem_of_getElem? (i := 2) rfl) rfl (v := .ref (a 20)) rfl dX5_round_14 ?_
      refine lv_iload_n Z.1 Z.2.1 dX5_round_17 rfl (lv_at hl 2 rfl) ?_
      refine zk_iald Z hK G 1 rfl (k := w) (by omega) (by decide) (v := nI (P w)) rfl dX5_round_18 ?_
      refine zk_ci (WF := fun (_ : Unit) => [(a 2, .inr (5, [.ref (a 20), .ref (a 21), .ref (a 22), .int (nI n), .int (nI hide), .ref (a 1), .ref (a 23), .ref (a 24), .int (nI ver), .int ew, .int (zk_b ek)])), (a 20, .inl (g 0, 7, .inl (fun i => nI (P i))))]) (wr := [(a 2, .inr (5, [.ref (a 20), .ref (a 21), .ref (a 22), .int (nI n), .int (nI hide), .ref (a 1), .ref (a 23), .ref (a 24), .int (nI ver), .int ew, .int (zk_b ek)])), (a 20, .inl (g 0, 7, .inl (fun i => nI (P i))))]) ⟨rfl, rfl⟩ (zk_rn (As := [.int (nI (zs_rnd P w)), .int (nI (P w))]) (rest := []) (host := "BehindBig") Z ((ct_X7_commonRound l D g τ (zs_rnd P w) (P w) (by omega) (by omega) (by omega) (by omega)) H.size) hK hT hA G [] rfl (by decide) gX5_round_X7_commonRound_n75 rfl hT.2.2.2.2.2.1 (List.mem_of_getElem? (i := 3) rfl) (List.mem_of_getElem? (i := 4) rfl) dvX7_commonRound ⟨by decide, by decide⟩ rfl hl.1 rfl (Nat.le_of_ble_eq_true rfl) dX5_round_19 ⟨Nat.zero_le _, Nat.zero_le _⟩) hA G [] [0, 1] [0, 1] rfl rfl (by decide) (by decide) (by decide) (fun _ => rfl) (fun r_19 _ H locs w_19 G => ?_)
      obtain rfl : r_19 = nI (zs_lcm (zs_rnd P w) (P w)) := w_19
      refine lv_istore_n (lv' := [(1, .int (nI (zs_lcm (zs_rnd P w) (P w)))), (0, .ref (a 2)), (2, .int (nI w))]) Z.1 Z.2.1 dX5_round_22 rfl hl (by decide) rfl (fun ls hl => ?_)
      refine lv_iinc (v := nI (w + 1)) (lv' := [(2, .int (nI (w + 1))), (1, .int (nI (zs_lcm (zs_rnd P w) (P w)))), (0, .ref (a 2))]) Z.1 Z.2.1 dX5_round_23 hl (k := 2) rfl (zk_inc w 1) (by decide) rfl (fun ls hl => ?_)
      refine lv_goto (tgt := 4) Z.1 Z.2.1 dX5_round_26 (by decide) ?_
      exact ih4 (w + 1) (by omega) (by omega) _ _ _ G (lv_sub hl [2, 1, 0] rfl)
  exact L4 _ 0 (Nat.lt_succ_self _) (by omega) _ _ _ G (lv_sub hl [2, 1, 0] rfl)

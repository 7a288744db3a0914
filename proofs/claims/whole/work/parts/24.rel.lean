/-! Relays: kinds and their bodies. -/
theorem zr_kind_ex {x : Int32} (h : zr_kind x = true) : ∃ j : Nat, j < 8 ∧ x = nI j := by
  simp only [zr_kind, Bool.and_eq_true, decide_eq_true_eq] at h
  obtain ⟨j, hj, rfl⟩ := nI_of h.1
  exact ⟨j, zk_nle (a := 8) (by decide) hj h.2, rfl⟩
def zr_under : Nat → Int32 → Int32 → Bool
  | 0, _, _ => false
  | f + 1, x, y => if zr_kind x = true then (if x = y then true else zr_under f (zk_abo x.toInt.toNat) y) else false
def zr_hold (act : Nat) : Nat → Int32 → Int32
  | 0, _ => -1
  | f + 1, x => if zr_kind x = true then (if zk_own (x.toInt.toNat * 4 + act) = 0 then zr_hold act f (zk_abo x.toInt.toNat) else x) else -1
theorem zk_own_lt {j : Nat} (h : j < 32) : zk_own j < 100 := by revert j; decide
def zr_kindOf (zr : Nat) (KD : Nat → Nat) (x : Int32) : Int32 := if zb_w zr x = true then nI (KD x.toInt.toNat) else -1

abbrev rm_X3_kindOf : Room := { frames := 0, cells := 0, slots := 0, locals := 0 }
theorem dvX3_kindOf : zk_dv yX3_kindOf RX3 1 := by decide +kernel
set_option maxRecDepth 100000 in
set_option maxHeartbeats 4000000 in
theorem ct_X3_kindOf (l : Launch) (D : va_G) (g : Nat → ClassId) (τ : Nat → Nat) (a : Nat → Nat) (zr : Nat) (rn : Nat) (nb : Int32) (TR : Nat → Nat) (KD : Nat → Nat) (x : Int32) (hz : zr ≤ 50) : zk_MI l D g τ yX3_kindOf wsX3_kindOf rm_X3_kindOf [.ref (a 7), .int x] [(a 7, .inr (3, [.int (nI zr), .int (nI rn), .ref (a 70), .ref (a 71), .int nb])), (a 71, .inl (g 0, 50, .inl (fun i => nI (KD i))))] (fun (r : Int32) (_ : Unit) => r = zr_kindOf zr KD x) (fun (_ : Unit) => [(a 7, .inr (3, [.int (nI zr), .int (nI rn), .ref (a 70), .ref (a 71), .int nb])), (a 71, .inl (g 0, 50, .inl (fun i => nI (KD i))))]) := by
  refine zk_of (Qc := fun A => va_Qi (fun (r : Int32) (_ : Unit) => r = zr_kindOf zr KD x) (zk_B D g A (fun (_ : Unit) => [(a 7, .inr (3, [.int (nI zr), .int (nI rn), .ref (a 70), .ref (a 71), .int nb])), (a 71, .inl (g 0, 50, .inl (fun i => nI (KD i))))])) A) (cc := cX3_kindOf) (maxL := 2) (ret := (some .int)) (own := RX3) (by decide) rfl rfl (Nat.le_of_ble_eq_true rfl) ?_
  intro pP eE sS mM args below meth cC aA ls qQ Z hR_ hlk hnm hK hT hA hQ G hl
  have hinX3 : ∀ w ∈ u_ws RX3 TX3 5, w ∈ wsX3_kindOf := (fun _ h => List.mem_cons_of_mem _ (List.mem_append_right _ h))
  refine lv_iload_n Z.1 Z.2.1 dX3_kindOf_0 rfl (lv_at hl 1 rfl) ?_
  refine lv_if_lt (tgt := 21) Z.1 Z.2.1 dX3_kindOf_1 (by decide) (fun c1 => ?_) (fun c1 => ?_)
  · have c1 : x < 0 := c1
    refine lv_iconst (v := (-1)) Z.1 Z.2.1 dX3_kindOf_21 (by decide +kernel) ?_
    exact zk_reti Z hR_ hlk hK hQ G () (by unfold zr_kindOf; rw [zb_w_neg c1]; rfl) rfl dX3_kindOf_22
  have c1 : ¬ x < 0 := c1
  obtain ⟨j, hj, rfl⟩ := nI_of c1
  refine lv_iload_n Z.1 Z.2.1 dX3_kindOf_4 rfl (lv_at hl 1 rfl) ?_
  refine lv_aload_n Z.1 Z.2.1 dX3_kindOf_5 rfl (lv_at hl 0 rfl) ?_
  refine zk_get (C := RX3) (T := TX3) (N := 5) (ci := 3) Z hK G hinX3 0 rfl rfl 0 (by decide) (List.mem_of_getElem? (i := 1) rfl) rfl (v := .int (nI zr)) rfl dX3_kindOf_6 ?_
  refine lv_icmp_ge (tgt := 21) Z.1 Z.2.1 dX3_kindOf_9 (by decide) (fun c9 => ?_) (fun c9 => ?_)
  · have c9 : zr ≤ j := zk_le (by omega) (by omega) c9
    refine lv_iconst (v := (-1)) Z.1 Z.2.1 dX3_kindOf_21 (by decide +kernel) ?_
    exact zk_reti Z hR_ hlk hK hQ G () (by unfold zr_kindOf; rw [zb_w_n hj, decide_eq_false (Nat.not_lt.mpr c9)]; rfl) rfl dX3_kindOf_22
  have c9 : j < zr := zk_nle (by omega) (by omega) c9
  refine lv_aload_n Z.1 Z.2.1 dX3_kindOf_12 rfl (lv_at hl 0 rfl) ?_
  refine zk_get (C := RX3) (T := TX3) (N := 5) (ci := 3) Z hK G hinX3 0 rfl rfl 3 (by decide) (List.mem_of_getElem? (i := 2) rfl) rfl (v := .ref (a 71)) rfl dX3_kindOf_13 ?_
  refine lv_iload_n Z.1 Z.2.1 dX3_kindOf_16 rfl (lv_at hl 1 rfl) ?_
  refine zk_iald Z hK G 1 rfl (k := j) (by omega) (by decide) (v := nI (KD j)) rfl dX3_kindOf_17 ?_
  refine lv_goto (tgt := 22) Z.1 Z.2.1 dX3_kindOf_18 (by decide) ?_
  exact zk_reti Z hR_ hlk hK hQ G () (by unfold zr_kindOf; rw [zb_w_n hj, decide_eq_true c9, if_pos rfl, zb_nat hj]) rfl dX3_kindOf_22

abbrev rm_X3_add : Room := { frames := 0, cells := 0, slots := 0, locals := 0 }
theorem dvX3_add : zk_dv yX3_add RX3 1 := by decide +kernel
set_option maxRecDepth 100000 in
set_option maxHeartbeats 4000000 in
theorem ct_X3_add (l : Launch) (D : va_G) (g : Nat → ClassId) (τ : Nat → Nat) (a : Nat → Nat) (zr : Nat) (rn : Nat) (nb : Int32) (TR : Nat → Nat) (KD : Nat → Nat) (kd : Nat) (hz : zr < 50) : zk_MI l D g τ yX3_add wsX3_add rm_X3_add [.ref (a 7), .int (nI kd)] [(a 7, .inr (3, [.int (nI zr), .int (nI rn), .ref (a 70), .ref (a 71), .int nb])), (a 71, .inl (g 0, 50, .inl (fun i => nI (KD i))))] (fun (r : Int32) (_ : Unit) => r = nI zr) (fun (_ : Unit) => [(a 7, .inr (3, [.int (nI (zr + 1)), .int (nI rn), .ref (a 70), .ref (a 71), .int nb])), (a 71, .inl (g 0, 50, .inl (fun i => nI (zs_up KD zr kd i))))]) := by
  refine zk_of (Qc := fun A => va_Qi (fun (r : Int32) (_ : Unit) => r = nI zr) (zk_B D g A (fun (_ : Unit) => [(a 7, .inr (3, [.int (nI (zr + 1)), .int (nI rn), .ref (a 70), .ref (a 71), .int nb])), (a 71, .inl (g 0, 50, .inl (fun i => nI (zs_up KD zr kd i))))])) A) (cc := cX3_add) (maxL := 2) (ret := (some .int)) (own := RX3) (by decide) rfl rfl (Nat.le_of_ble_eq_true rfl) ?_
  intro pP eE sS mM args below meth cC aA ls qQ Z hR_ hlk hnm hK hT hA hQ G hl
  have hinX3 : ∀ w ∈ u_ws RX3 TX3 5, w ∈ wsX3_add := (fun _ h => List.mem_cons_of_mem _ (List.mem_append_right _ h))
  refine lv_aload_n Z.1 Z.2.1 dX3_add_0 rfl (lv_at hl 0 rfl) ?_
  refine zk_get (C := RX3) (T := TX3) (N := 5) (ci := 3) Z hK G hinX3 0 rfl rfl 3 (by decide) (List.mem_of_getElem? (i := 1) rfl) rfl (v := .ref (a 71)) rfl dX3_add_1 ?_
  refine lv_aload_n Z.1 Z.2.1 dX3_add_4 rfl (lv_at hl 0 rfl) ?_
  refine zk_get (C := RX3) (T := TX3) (N := 5) (ci := 3) Z hK G hinX3 0 rfl rfl 0 (by decide) (List.mem_of_getElem? (i := 2) rfl) rfl (v := .int (nI zr)) rfl dX3_add_5 ?_
  refine lv_iload_n Z.1 Z.2.1 dX3_add_8 rfl (lv_at hl 1 rfl) ?_
  refine zk_iast Z hK G 1 rfl (k := zr) (by omega) (by decide) (zs_up_n _ _ _) (ws' := [(a 7, .inr (3, [.int (nI zr), .int (nI rn), .ref (a 70), .ref (a 71), .int nb])), (a 71, .inl (g 0, 50, .inl (fun i => nI (zs_up KD zr kd i))))]) rfl dX3_add_9 (fun H locs G => ?_)
  refine lv_aload_n Z.1 Z.2.1 dX3_add_10 rfl (lv_at hl 0 rfl) ?_
  refine lv_dup Z.1 Z.2.1 dX3_add_11 rfl ?_
  refine zk_get (C := RX3) (T := TX3) (N := 5) (ci := 3) Z hK G hinX3 0 rfl rfl 0 (by decide) (List.mem_of_getElem? (i := 2) rfl) rfl (v := .int (nI zr)) rfl dX3_add_12 ?_
  refine lv_iconst (v := nI 1) Z.1 Z.2.1 dX3_add_15 (by decide +kernel) ?_
  refine zk_iadd Z dX3_add_16 (z := nI (zr + 1)) (nI_add _ _) ?_
  refine zk_put tyX3 tyX3_ok nmX3 (C := RX3) (T := TX3) (N := 5) (ci := 3) Z hK G hinX3 0 rfl rfl 0 (by decide) (List.mem_of_getElem? (i := 2) rfl) rfl rfl rfl rfl (Nat.le_of_ble_eq_true rfl) (ws' := [(a 7, .inr (3, [.int (nI (zr + 1)), .int (nI rn), .ref (a 70), .ref (a 71), .int nb])), (a 71, .inl (g 0, 50, .inl (fun i => nI (zs_up KD zr kd i))))]) rfl dX3_add_17 (fun H locs G => ?_)
  refine lv_aload_n Z.1 Z.2.1 dX3_add_20 rfl (lv_at hl 0 rfl) ?_
  refine zk_get (C := RX3) (T := TX3) (N := 5) (ci := 3) Z hK G hinX3 0 rfl rfl 0 (by decide) (List.mem_of_getElem? (i := 2) rfl) rfl (v := .int (nI (zr + 1))) rfl dX3_add_21 ?_
  refine lv_iconst (v := nI 1) Z.1 Z.2.1 dX3_add_24 (by decide +kernel) ?_
  refine zk_isub Z dX3_add_25 (z := nI ((zr + 1) - 1)) (pk_sub (by omega)) ?_
  exact zk_reti Z hR_ hlk hK hQ G () rfl rfl dX3_add_26

abbrev rm_X3_begin : Room := { frames := 0, cells := 0, slots := 0, locals := 0 }
theorem dvX3_begin : zk_dv yX3_begin RX3 1 := by decide +kernel
set_option maxRecDepth 100000 in
set_option maxHeartbeats 4000000 in
theorem ct_X3_begin (l : Launch) (D : va_G) (g : Nat → ClassId) (τ : Nat → Nat) (a : Nat → Nat) (zr : Nat) (rn : Nat) (nb : Int32) (TR : Nat → Nat) (KD : Nat → Nat) (bd : Nat) (hr : rn < 2 ^ 30) : zk_MV l D g τ yX3_begin wsX3_begin rm_X3_begin [.ref (a 7), .int (nI bd)] [(a 7, .inr (3, [.int (nI zr), .int (nI rn), .ref (a 70), .ref (a 71), .int nb])), (a 70, .inl (g 0, 24, .inl (fun i => nI (TR i))))] (fun (_ : Unit) => True) (fun (_ : Unit) => [(a 7, .inr (3, [.int (nI zr), .int (nI (rn + 1)), .ref (a 70), .ref (a 71), .int nb])), (a 70, .inl (g 0, 24, .inl (fun i => nI ((if rn < 24 then zs_up TR rn bd else TR) i))))]) := by
  refine zk_of (Qc := fun A => va_Qv (fun (_ : Unit) => True) (zk_B D g A (fun (_ : Unit) => [(a 7, .inr (3, [.int (nI zr), .int (nI (rn + 1)), .ref (a 70), .ref (a 71), .int nb])), (a 70, .inl (g 0, 24, .inl (fun i => nI ((if rn < 24 then zs_up TR rn bd else TR) i))))])) A) (cc := cX3_begin) (maxL := 2) (ret := none) (own := RX3) (by decide) rfl rfl (Nat.le_of_ble_eq_true rfl) ?_
  intro pP eE sS mM args below meth cC aA ls qQ Z hR_ hlk hnm hK hT hA hQ G hl
  have hinX3 : ∀ w ∈ u_ws RX3 TX3 5, w ∈ wsX3_begin := (fun _ h => List.mem_cons_of_mem _ (List.mem_append_right _ h))
  refine lv_aload_n Z.1 Z.2.1 dX3_begin_0 rfl (lv_at hl 0 rfl) ?_
  refine zk_get (C := RX3) (T := TX3) (N := 5) (ci := 3) Z hK G hinX3 0 rfl rfl 1 (by decide) (List.mem_of_getElem? (i := 1) rfl) rfl (v := .int (nI rn)) rfl dX3_begin_1 ?_
  refine lv_bipush (v := nI 24) Z.1 Z.2.1 dX3_begin_4 (by decide +kernel) ?_
  refine lv_icmp_ge (tgt := 19) Z.1 Z.2.1 dX3_begin_6 (by decide) (fun c6 => ?_) (fun c6 => ?_)
  · have c6 : 24 ≤ rn := zk_le (by omega) (by omega) c6
    refine lv_aload_n Z.1 Z.2.1 dX3_begin_19 rfl (lv_at hl 0 rfl) ?_
    refine lv_dup Z.1 Z.2.1 dX3_begin_20 rfl ?_
    refine zk_get (C := RX3) (T := TX3) (N := 5) (ci := 3) Z hK G hinX3 0 rfl rfl 1 (by decide) (List.mem_of_getElem? (i := 1) rfl) rfl (v := .int (nI rn)) rfl dX3_begin_21 ?_
    refine lv_iconst (v := nI 1) Z.1 Z.2.1 dX3_begin_24 (by decide +kernel) ?_
    refine zk_iadd Z dX3_begin_25 (z := nI (rn + 1)) (nI_add _ _) ?_
    refine zk_put tyX3 tyX3_ok nmX3 (C := RX3) (T := TX3) (N := 5) (ci := 3) Z hK G hinX3 0 rfl rfl 1 (by decide) (List.mem_of_getElem? (i := 1) rfl) rfl rfl rfl rfl (Nat.le_of_ble_eq_true rfl) (ws' := [(a 7, .inr (3, [.int (nI zr), .int (nI (rn + 1)), .ref (a 70), .ref (a 71), .int nb])), (a 70, .inl (g 0, 24, .inl (fun i => nI (TR i))))]) rfl dX3_begin_26 (fun H locs G => ?_)
    exact zk_retv Z hR_ hlk hK hQ G () trivial (by rw [if_neg (by omega)]) dX3_begin_29
  have c6 : rn < 24 := zk_nle (by omega) (by omega) c6
  refine lv_aload_n Z.1 Z.2.1 dX3_begin_9 rfl (lv_at hl 0 rfl) ?_
  refine zk_get (C := RX3) (T := TX3) (N := 5) (ci := 3) Z hK G hinX3 0 rfl rfl 2 (by decide) (List.mem_of_getElem? (i := 2) rfl) rfl (v := .ref (a 70)) rfl dX3_begin_10 ?_
  refine lv_aload_n Z.1 Z.2.1 dX3_begin_13 rfl (lv_at hl 0 rfl) ?_
  refine zk_get (C := RX3) (T := TX3) (N := 5) (ci := 3) Z hK G hinX3 0 rfl rfl 1 (by decide) (List.mem_of_getElem? (i := 1) rfl) rfl (v := .int (nI rn)) rfl dX3_begin_14 ?_
  refine lv_iload_n Z.1 Z.2.1 dX3_begin_17 rfl (lv_at hl 1 rfl) ?_
  refine zk_iast Z hK G 1 rfl (k := rn) (by omega) (by decide) (zs_up_n _ _ _) (ws' := [(a 7, .inr (3, [.int (nI zr), .int (nI rn), .ref (a 70), .ref (a 71), .int nb])), (a 70, .inl (g 0, 24, .inl (fun i => nI (zs_up TR rn bd i))))]) rfl dX3_begin_18 (fun H locs G => ?_)
  refine lv_aload_n Z.1 Z.2.1 dX3_begin_19 rfl (lv_at hl 0 rfl) ?_
  refine lv_dup Z.1 Z.2.1 dX3_begin_20 rfl ?_
  refine zk_get (C := RX3) (T := TX3) (N := 5) (ci := 3) Z hK G hinX3 0 rfl rfl 1 (by decide) (List.mem_of_getElem? (i := 1) rfl) rfl (v := .int (nI rn)) rfl dX3_begin_21 ?_
  refine lv_iconst (v := nI 1) Z.1 Z.2.1 dX3_begin_24 (by decide +kernel) ?_
  refine zk_iadd Z dX3_begin_25 (z := nI (rn + 1)) (nI_add _ _) ?_
  refine zk_put tyX3 tyX3_ok nmX3 (C := RX3) (T := TX3) (N := 5) (ci := 3) Z hK G hinX3 0 rfl rfl 1 (by decide) (List.mem_of_getElem? (i := 1) rfl) rfl rfl rfl rfl (Nat.le_of_ble_eq_true rfl) (ws' := [(a 7, .inr (3, [.int (nI zr), .int (nI (rn + 1)), .ref (a 70), .ref (a 71), .int nb])), (a 70, .inl (g 0, 24, .inl (fun i => nI (zs_up TR rn bd i))))]) rfl dX3_begin_26 (fun H locs G => ?_)
  exact zk_retv Z hR_ hlk hK hQ G () trivial (by rw [if_pos c6]) dX3_begin_29

abbrev rm_X3_isUnder : Room := { frames := 1, cells := 0, slots := 0, locals := 20 }
theorem dvX3_isUnder : zk_dv yX3_isUnder RX3 2 := by decide +kernel
set_option maxRecDepth 100000 in
set_option maxHeartbeats 4000000 in
theorem ct_X3_isUnder (l : Launch) (D : va_G) (g : Nat → ClassId) (τ : Nat → Nat) (x : Int32) (y : Int32)  : zk_MI l D g τ yX3_isUnder wsX3_isUnder rm_X3_isUnder [.int x, .int y] [] (fun (r : Int32) (_ : Unit) => r = zk_b (zr_under 8 x y)) (fun (_ : Unit) => []) := by
  refine zk_of (Qc := fun A => va_Qi (fun (r : Int32) (_ : Unit) => r = zk_b (zr_under 8 x y)) (zk_B D g A (fun (_ : Unit) => [])) A) (cc := cX3_isUnder) (maxL := 4) (ret := (some .boolean)) (own := RX3) (by decide) rfl rfl (Nat.le_of_ble_eq_true rfl) ?_
  intro pP eE sS mM args below meth cC aA ls qQ Z hR_ hlk hnm hK hT hA hQ G hl
  obtain ⟨V, hV⟩ : ∃ V, V = zr_under 8 x y := ⟨_, rfl⟩
  refine lv_iload_n Z.1 Z.2.1 dX3_isUnder_0 rfl (lv_at hl 0 rfl) ?_
  refine lv_istore_n (lv' := [(2, .int x), (0, .int x), (1, .int y)]) Z.1 Z.2.1 dX3_isUnder_1 rfl hl (by decide) rfl (fun ls hl => ?_)
  refine lv_iconst (v := nI 0) Z.1 Z.2.1 dX3_isUnder_2 (by decide +kernel) ?_
  refine lv_istore_n (lv' := [(3, .int (nI 0)), (2, .int x), (0, .int x), (1, .int y)]) Z.1 Z.2.1 dX3_isUnder_3 rfl hl (by decide) rfl (fun ls hl => ?_)
  have L4 : ∀ (nN : Nat) (f : Nat) (z : Int32) (s : Nat), f < nN → (s + f = 8) → (zr_under f z y = V) → ∀ (H : Heap) (locs : List Loc) (ls : Array Slot), zk_G D aA [] sS H locs → lv_has ls 4 [(0, .int x), (1, .int y), (2, .int z), (3, .int (nI s))] → W pP l eE rm_X3_isUnder sS mM args below meth cC H locs 0 0 qQ (F0 mM 4 ls []) := by
    intro nN
    induction nN with
    | zero => intros; omega
    | succ nN ih4 =>
      intro f z s hμ h1 hs H locs ls G hl
      refine lv_iload_n Z.1 Z.2.1 dX3_isUnder_4 rfl (lv_at hl 3 rfl) ?_
      refine lv_bipush (v := nI 8) Z.1 Z.2.1 dX3_isUnder_5 (by decide +kernel) ?_
      refine lv_icmp_ge (tgt := 36) Z.1 Z.2.1 dX3_isUnder_7 (by decide) (fun c7 => ?_) (fun c7 => ?_)
      · have c7 : 8 ≤ s := zk_le (by omega) (by omega) c7
        refine lv_iconst (v := nI 0) Z.1 Z.2.1 dX3_isUnder_36 (by decide +kernel) ?_
        refine W.eq (g2 := F0 mM 37 ls [.int (zk_b false)]) rfl ?_
        exact zk_retz Z hR_ hlk hK hQ G () (congrArg zk_b (by rw [← hV, ← hs, show f = 0 by omega]; rfl)) rfl dX3_isUnder_37
      have c7 : s < 8 := zk_nle (by omega) (by omega) c7
      obtain ⟨f9, rfl⟩ : ∃ f9, f = f9 + 1 := ⟨f - 1, by omega⟩
      refine lv_iload_n Z.1 Z.2.1 dX3_isUnder_10 rfl (lv_at hl 2 rfl) ?_
      refine zk_ci (WF := fun (_ : Unit) => []) (wr := []) ⟨rfl, rfl⟩ (zk_rs (As := [.int z]) (rest := []) Z ((ct_X3_isKind l D g τ z ) H.size) hK hT hA G [] rfl (by decide) gX3_isUnder_X3_isKind rfl dvX3_isKind ⟨by decide, by decide⟩ rfl hl.1 rfl (Nat.le_of_ble_eq_true rfl) dX3_isUnder_11 ⟨Nat.zero_le _, Nat.zero_le _⟩) hA G [] [] [] rfl rfl (by decide) (by decide) (by decide) (fun _ => rfl) (fun r_11 _ H locs w_11 G => ?_)
      obtain rfl : r_11 = zk_b (zr_kind z) := w_11
      refine lv_if_eq (tgt := 36) Z.1 Z.2.1 dX3_isUnder_14 (by decide) (fun c14 => ?_) (fun c14 => ?_)
      · have c14 : zr_kind z = false := zk_b0.mp c14
        refine lv_iconst (v := nI 0) Z.1 Z.2.1 dX3_isUnder_36 (by decide +kernel) ?_
        refine W.eq (g2 := F0 mM 37 ls [.int (zk_b false)]) rfl ?_
        exact zk_retz Z hR_ hlk hK hQ G () (congrArg zk_b (by rw [← hV, ← hs]; simp only [zr_under]; rw [c14]; rfl)) rfl dX3_isUnder_37
      have c14 : zr_kind z = true := zk_b1.mp c14
      have c14_0 := c14
      obtain ⟨j, hj, rfl⟩ := zr_kind_ex c14
      refine lv_iload_n Z.1 Z.2.1 dX3_isUnder_17 rfl (lv_at hl 2 rfl) ?_
      refine lv_iload_n Z.1 Z.2.1 dX3_isUnder_18 rfl (lv_at hl 1 rfl) ?_
      refine lv_icmp_ne (tgt := 24) Z.1 Z.2.1 dX3_isUnder_19 (by decide) (fun c19 => ?_) (fun c19 => ?_)
      · have c19 : ¬ nI j = y := c19
        refine zk_gets Z G hT.2.2.1 (List.mem_of_getElem? (i := 1) rfl) dX3_isUnder_24 ?_
        refine lv_iload_n Z.1 Z.2.1 dX3_isUnder_27 rfl (lv_at hl 2 rfl) ?_
        refine zk_ti Z G hT.2.2.1 (k := j) (by omega) (by decide) (v := .int (zk_abo j)) rfl dX3_isUnder_28 ?_
        refine lv_istore_n (lv' := [(2, .int (zk_abo j)), (0, .int x), (1, .int y), (3, .int (nI s))]) Z.1 Z.2.1 dX3_isUnder_29 rfl hl (by decide) rfl (fun ls hl => ?_)
        refine lv_iinc (v := nI (s + 1)) (lv' := [(3, .int (nI (s + 1))), (2, .int (zk_abo j)), (0, .int x), (1, .int y)]) Z.1 Z.2.1 dX3_isUnder_30 hl (k := 3) rfl (zk_inc s 1) (by decide) rfl (fun ls hl => ?_)
        refine lv_goto (tgt := 4) Z.1 Z.2.1 dX3_isUnder_33 (by decide) ?_
        exact ih4 f9 (zk_abo j) (s + 1) (by omega) (by omega) (by simp only [zr_under] at hs; rw [if_pos c14_0, if_neg c19, zb_nat (by omega)] at hs; exact hs) _ _ _ G (lv_sub hl [2, 3, 1, 0] rfl)
      have c19 : nI j = y := c19
      refine lv_iconst (v := nI 1) Z.1 Z.2.1 dX3_isUnder_22 (by decide +kernel) ?_
      refine W.eq (g2 := F0 mM 23 ls [.int (zk_b true)]) rfl ?_
      exact zk_retz Z hR_ hlk hK hQ G () (congrArg zk_b (by rw [← hV, ← hs]; simp only [zr_under]; rw [if_pos c14_0, if_pos c19])) rfl dX3_isUnder_23
  exact L4 _ 8 x 0 (Nat.lt_succ_self _) (by omega) (by exact hV.symm) _ _ _ G (lv_sub hl [2, 3, 1, 0] rfl)

abbrev rm_X3_holderOf : Room := { frames := 1, cells := 0, slots := 0, locals := 20 }
theorem dvX3_holderOf : zk_dv yX3_holderOf RX3 2 := by decide +kernel
set_option maxRecDepth 100000 in
set_option maxHeartbeats 4000000 in
theorem ct_X3_holderOf (l : Launch) (D : va_G) (g : Nat → ClassId) (τ : Nat → Nat) (x : Int32) (act : Nat) (ha : act < 4) : zk_MI l D g τ yX3_holderOf wsX3_holderOf rm_X3_holderOf [.int x, .int (nI act)] [] (fun (r : Int32) (_ : Unit) => r = zr_hold act 8 x) (fun (_ : Unit) => []) := by
  refine zk_of (Qc := fun A => va_Qi (fun (r : Int32) (_ : Unit) => r = zr_hold act 8 x) (zk_B D g A (fun (_ : Unit) => [])) A) (cc := cX3_holderOf) (maxL := 4) (ret := (some .int)) (own := RX3) (by decide) rfl rfl (Nat.le_of_ble_eq_true rfl) ?_
  intro pP eE sS mM args below meth cC aA ls qQ Z hR_ hlk hnm hK hT hA hQ G hl
  obtain ⟨V, hV⟩ : ∃ V, V = zr_hold act 8 x := ⟨_, rfl⟩
  refine lv_iload_n Z.1 Z.2.1 dX3_holderOf_0 rfl (lv_at hl 0 rfl) ?_
  refine lv_istore_n (lv' := [(2, .int x), (0, .int x), (1, .int (nI act))]) Z.1 Z.2.1 dX3_holderOf_1 rfl hl (by decide) rfl (fun ls hl => ?_)
  refine lv_iconst (v := nI 0) Z.1 Z.2.1 dX3_holderOf_2 (by decide +kernel) ?_
  refine lv_istore_n (lv' := [(3, .int (nI 0)), (2, .int x), (0, .int x), (1, .int (nI act))]) Z.1 Z.2.1 dX3_holderOf_3 rfl hl (by decide) rfl (fun ls hl => ?_)
  have L4 : ∀ (nN : Nat) (f : Nat) (z : Int32) (s : Nat), f < nN → (s + f = 8) → (zr_hold act f z = V) → ∀ (H : Heap) (locs : List Loc) (ls : Array Slot), zk_G D aA [] sS H locs → lv_has ls 4 [(0, .int x), (1, .int (nI act)), (2, .int z), (3, .int (nI s))] → W pP l eE rm_X3_holderOf sS mM args below meth cC H locs 0 0 qQ (F0 mM 4 ls []) := by
    intro nN
    induction nN with
    | zero => intros; omega
    | succ nN ih4 =>
      intro f z s hμ h1 hs H locs ls G hl
      refine lv_iload_n Z.1 Z.2.1 dX3_holderOf_4 rfl (lv_at hl 3 rfl) ?_
      refine lv_bipush (v := nI 8) Z.1 Z.2.1 dX3_holderOf_5 (by decide +kernel) ?_
      refine lv_icmp_ge (tgt := 43) Z.1 Z.2.1 dX3_holderOf_7 (by decide) (fun c7 => ?_) (fun c7 => ?_)
      · have c7 : 8 ≤ s := zk_le (by omega) (by omega) c7
        refine lv_iconst (v := (-1)) Z.1 Z.2.1 dX3_holderOf_43 (by decide +kernel) ?_
        exact zk_reti Z hR_ hlk hK hQ G () (by rw [← hV, ← hs, show f = 0 by omega]; rfl) rfl dX3_holderOf_44
      have c7 : s < 8 := zk_nle (by omega) (by omega) c7
      obtain ⟨f9, rfl⟩ : ∃ f9, f = f9 + 1 := ⟨f - 1, by omega⟩
      refine lv_iload_n Z.1 Z.2.1 dX3_holderOf_10 rfl (lv_at hl 2 rfl) ?_
      refine zk_ci (WF := fun (_ : Unit) => []) (wr := []) ⟨rfl, rfl⟩ (zk_rs (As := [.int z]) (rest := []) Z ((ct_X3_isKind l D g τ z ) H.size) hK hT hA G [] rfl (by decide) gX3_holderOf_X3_isKind rfl dvX3_isKind ⟨by decide, by decide⟩ rfl hl.1 rfl (Nat.le_of_ble_eq_true rfl) dX3_holderOf_11 ⟨Nat.zero_le _, Nat.zero_le _⟩) hA G [] [] [] rfl rfl (by decide) (by decide) (by decide) (fun _ => rfl) (fun r_11 _ H locs w_11 G => ?_)
      obtain rfl : r_11 = zk_b (zr_kind z) := w_11
      refine lv_if_eq (tgt := 43) Z.1 Z.2.1 dX3_holderOf_14 (by decide) (fun c14 => ?_) (fun c14 => ?_)
      · have c14 : zr_kind z = false := zk_b0.mp c14
        refine lv_iconst (v := (-1)) Z.1 Z.2.1 dX3_holderOf_43 (by decide +kernel) ?_
        exact zk_reti Z hR_ hlk hK hQ G () (by rw [← hV, ← hs]; simp only [zr_hold]; rw [c14]; rfl) rfl dX3_holderOf_44
      have c14 : zr_kind z = true := zk_b1.mp c14
      have c14_0 := c14
      obtain ⟨j, hj, rfl⟩ := zr_kind_ex c14
      have ho9 := zk_own_lt (j := j * 4 + act) (by omega)
      refine zk_gets Z G hT.2.2.2.1 (List.mem_of_getElem? (i := 1) rfl) dX3_holderOf_17 ?_
      refine lv_iload_n Z.1 Z.2.1 dX3_holderOf_20 rfl (lv_at hl 2 rfl) ?_
      refine lv_iconst (v := nI 4) Z.1 Z.2.1 dX3_holderOf_21 (by decide +kernel) ?_
      refine zk_imul Z dX3_holderOf_22 (z := nI (j * 4)) (pk_mul _ _) ?_
      refine lv_iload_n Z.1 Z.2.1 dX3_holderOf_23 rfl (lv_at hl 1 rfl) ?_
      refine zk_iadd Z dX3_holderOf_24 (z := nI (j * 4 + act)) (nI_add _ _) ?_
      refine zk_ti Z G hT.2.2.2.1 (k := j * 4 + act) (by omega) (by decide) (v := .int (nI (zk_own (j * 4 + act)))) rfl dX3_holderOf_25 ?_
      refine lv_if_eq (tgt := 31) Z.1 Z.2.1 dX3_holderOf_26 (by decide) (fun c26 => ?_) (fun c26 => ?_)
      · have c26 : zk_own (j * 4 + act) = 0 := zk_eq (by omega) (by omega) c26
        refine zk_gets Z G hT.2.2.1 (List.mem_of_getElem? (i := 2) rfl) dX3_holderOf_31 ?_
        refine lv_iload_n Z.1 Z.2.1 dX3_holderOf_34 rfl (lv_at hl 2 rfl) ?_
        refine zk_ti Z G hT.2.2.1 (k := j) (by omega) (by decide) (v := .int (zk_abo j)) rfl dX3_holderOf_35 ?_
        refine lv_istore_n (lv' := [(2, .int (zk_abo j)), (0, .int x), (1, .int (nI act)), (3, .int (nI s))]) Z.1 Z.2.1 dX3_holderOf_36 rfl hl (by decide) rfl (fun ls hl => ?_)
        refine lv_iinc (v := nI (s + 1)) (lv' := [(3, .int (nI (s + 1))), (2, .int (zk_abo j)), (0, .int x), (1, .int (nI act))]) Z.1 Z.2.1 dX3_holderOf_37 hl (k := 3) rfl (zk_inc s 1) (by decide) rfl (fun ls hl => ?_)
        refine lv_goto (tgt := 4) Z.1 Z.2.1 dX3_holderOf_40 (by decide) ?_
        exact ih4 f9 (zk_abo j) (s + 1) (by omega) (by omega) (by simp only [zr_hold] at hs; rw [if_pos c14_0, zb_nat (by omega), if_pos c26] at hs; exact hs) _ _ _ G (lv_sub hl [2, 3, 1, 0] rfl)
      have c26 : zk_own (j * 4 + act) ≠ 0 := zk_neq (by omega) (by omega) c26
      refine lv_iload_n Z.1 Z.2.1 dX3_holderOf_29 rfl (lv_at hl 2 rfl) ?_
      exact zk_reti Z hR_ hlk hK hQ G () (by rw [← hV, ← hs]; simp only [zr_hold]; rw [if_pos c14_0, zb_nat (by omega), if_neg c26]) rfl dX3_holderOf_30
  exact L4 _ 8 x 0 (Nat.lt_succ_self _) (by omega) (by exact hV.symm) _ _ _ G (lv_sub hl [2, 3, 1, 0] rfl)

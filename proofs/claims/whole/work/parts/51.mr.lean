/-! The reference: powers. -/
def zm_pow (v : Int64) : Nat → Int64 | 0 => lN 1 | k + 1 => zm_pow v k * v

abbrev rm_X8_power : Room := { frames := 0, cells := 0, slots := 0, locals := 0 }
theorem dvX8_power : zk_dv yX8_power RX8 2 := by decide +kernel
set_option maxRecDepth 100000 in
set_option maxHeartbeats 400000 in
theorem ct_X8_power (l : Launch) (D : va_G) (g : Nat → ClassId) (τ : Nat → Nat) (v : Int64) (n : Nat) (hn : n ≤ 1000000) : zk_ML l D g τ yX8_power wmX8_power rm_X8_power [.long v, .int (nI n)] [] (fun (r : Int64) (_ : Unit) => r = zm_pow v n) (fun (_ : Unit) => []) := by
  refine zk_of (av := [.long v, .int (nI n)]) (W0 := []) (y := yX8_power) (wd := wmX8_power) (Qc := fun A => va_Ql (fun (r : Int64) (_ : Unit) => r = zm_pow v n) (zk_B D g A (fun (_ : Unit) => [])) A) (cc := cX8_power) (maxL := 6) (ret := (some .long)) (own := RX8) (by decide) rfl rfl (Nat.le_of_ble_eq_true rfl) ?_
  intro pP eE sS mM args below meth cC aA ls qQ Z hR_ hlk hnm hK hT hA hQ G hl
  refine lv_lconst (v := lN 1) Z.1 Z.2.1 dX8_power_0 (by decide +kernel) ?_
  refine lv_lstore_n (lv' := [(3, .long (lN 1)), (0, .long v), (2, .int (nI n))]) Z.1 Z.2.1 dX8_power_1 rfl hl (by decide) rfl (fun ls hl => ?_)
  refine lv_iconst (v := nI 0) Z.1 Z.2.1 dX8_power_2 (by decide +kernel) ?_
  refine lv_istore (lv' := [(5, .int (nI 0)), (3, .long (lN 1)), (0, .long v), (2, .int (nI n))]) Z.1 Z.2.1 dX8_power_3 hl (by decide) rfl (fun ls hl => ?_)
  have L5 : ∀ (nN : Nat) (k : Nat), n - k < nN → (k ≤ n) → ∀ (H : Heap) (locs : List Loc) (ls : Array Slot), zk_G D aA [] sS H locs → lv_has ls 6 [(0, .long v), (2, .int (nI n)), (3, .long (zm_pow v k)), (5, .int (nI k))] → W pP l eE rm_X8_power sS mM args below meth cC H locs 0 0 qQ (F0 mM 5 ls []) := by
    intro nN
    induction nN with
    | zero => intros; omega
    | succ nN ih5 =>
      intro k hμ h1 H locs ls G hl
      refine lv_iload Z.1 Z.2.1 dX8_power_5 (lv_at hl 3 rfl) ?_
      refine lv_iload_n Z.1 Z.2.1 dX8_power_7 rfl (lv_at hl 1 rfl) ?_
      refine lv_icmp_ge (tgt := 21) Z.1 Z.2.1 dX8_power_8 (by decide) (fun c8 => ?_) (fun c8 => ?_)
      · have c8 : n ≤ k := zk_le (by omega) (by omega) c8
        refine lv_lload_n Z.1 Z.2.1 dX8_power_21 rfl (lv_at hl 2 rfl) ?_
        exact zk_retl Z hR_ hlk hK hQ G () (by rw [show k = n by omega]) rfl dX8_power_22
      have c8 : k < n := zk_nle (by omega) (by omega) c8
      refine lv_lload_n Z.1 Z.2.1 dX8_power_11 rfl (lv_at hl 2 rfl) ?_
      refine lv_lload_n Z.1 Z.2.1 dX8_power_12 rfl (lv_at hl 0 rfl) ?_
      refine zk_lmul Z dX8_power_13 (z := zm_pow v (k + 1)) rfl ?_
      refine lv_lstore_n (lv' := [(3, .long (zm_pow v (k + 1))), (0, .long v), (2, .int (nI n)), (5, .int (nI k))]) Z.1 Z.2.1 dX8_power_14 rfl hl (by decide) rfl (fun ls hl => ?_)
      refine lv_iinc (v := nI (k + 1)) (lv' := [(5, .int (nI (k + 1))), (3, .long (zm_pow v (k + 1))), (0, .long v), (2, .int (nI n))]) Z.1 Z.2.1 dX8_power_15 hl (k := 3) rfl (zk_inc k 1) (by decide) rfl (fun ls hl => ?_)
      refine lv_goto (tgt := 5) Z.1 Z.2.1 dX8_power_18 (by decide) ?_
      exact ih5 (k + 1) (by omega) (by omega) _ _ _ G (lv_sub hl [2, 3, 1, 0] rfl)
  exact L5 _ 0 (Nat.lt_succ_self _) (by omega) _ _ _ G (lv_sub hl [2, 3, 1, 0] rfl)

abbrev rm_J7_fill_031fb : Room := { frames := 0, cells := 0, slots := 0, locals := 0 }
theorem dvJ7_fill_031fb : zk_dv yJ7_fill_031fb RJ7 2 := by decide +kernel
set_option maxRecDepth 100000 in
set_option maxHeartbeats 4000000 in
theorem ct_J7_fill_031fb (l : Launch) (D : va_G) (g : Nat → ClassId) (τ : Nat → Nat) (ad : Nat) (v : Int32) (N : Nat) (F : Nat → Int32) (hN : N < 2 ^ 31) : zk_MV l D g τ yJ7_fill_031fb wsJ7_fill_031fb rm_J7_fill_031fb [.ref ad, .int v] [(ad, .inl (g 2, N, .inl F))] (fun (_ : Unit) => True) (fun (_ : Unit) => [(ad, .inl (g 2, N, .inl (zs_fill (fun _ => vp_nar .byte v) F N)))]) := by
  refine zk_of (Qc := fun A => va_Qv (fun (_ : Unit) => True) (zk_B D g A (fun (_ : Unit) => [(ad, .inl (g 2, N, .inl (zs_fill (fun _ => vp_nar .byte v) F N)))])) A) (cc := cJ7_fill_031fb) (maxL := 4) (ret := none) (own := RJ7) (by decide) rfl rfl (Nat.le_of_ble_eq_true rfl) ?_
  intro pP eE sS mM args below meth cC aA ls qQ Z hR_ hlk hnm hK hT hA hQ G hl
  have G : zk_G D aA [(ad, .inl (g 2, N, .inl (zs_fill (fun _ => vp_nar .byte v) F 0)))] sS sS.heap [] := (by rw [zs_fill_0]; exact G)
  refine lv_iconst (v := nI 0) Z.1 Z.2.1 dJ7_fill_031fb_0 (by decide +kernel) ?_
  refine lv_istore_n (lv' := [(2, .int (nI 0)), (0, .ref ad), (1, .int v)]) Z.1 Z.2.1 dJ7_fill_031fb_1 rfl hl (by decide) rfl (fun ls hl => ?_)
  refine lv_aload_n Z.1 Z.2.1 dJ7_fill_031fb_2 rfl (lv_at hl 1 rfl) ?_
  refine zk_alen Z hK G 0 2 rfl rfl (v := nI N) rfl dJ7_fill_031fb_3 ?_
  refine lv_istore_n (lv' := [(3, .int (nI N)), (2, .int (nI 0)), (0, .ref ad), (1, .int v)]) Z.1 Z.2.1 dJ7_fill_031fb_4 rfl hl (by decide) rfl (fun ls hl => ?_)
  have L5 : ∀ (nN : Nat) (k : Nat), N - k < nN → (k ≤ N) → ∀ (H : Heap) (locs : List Loc) (ls : Array Slot), zk_G D aA [(ad, .inl (g 2, N, .inl (zs_fill (fun _ => vp_nar .byte v) F k)))] sS H locs → lv_has ls 4 [(0, .ref ad), (1, .int v), (2, .int (nI k)), (3, .int (nI N))] → W pP l eE rm_J7_fill_031fb sS mM args below meth cC H locs 0 0 qQ (F0 mM 5 ls []) := by
    intro nN
    induction nN with
    | zero => intros; omega
    | succ nN ih5 =>
      intro k hμ h1 H locs ls G hl
      refine lv_iload_n Z.1 Z.2.1 dJ7_fill_031fb_5 rfl (lv_at hl 2 rfl) ?_
      refine lv_iload_n Z.1 Z.2.1 dJ7_fill_031fb_6 rfl (lv_at hl 3 rfl) ?_
      refine lv_icmp_ge (tgt := 20) Z.1 Z.2.1 dJ7_fill_031fb_7 (by decide) (fun c7 => ?_) (fun c7 => ?_)
      · have c7 : N ≤ k := zk_le (by omega) (by omega) c7
        exact zk_retv Z hR_ hlk hK hQ G () trivial (by rw [show k = N by omega]) dJ7_fill_031fb_20
      have c7 : k < N := zk_nle (by omega) (by omega) c7
      refine lv_aload_n Z.1 Z.2.1 dJ7_fill_031fb_10 rfl (lv_at hl 0 rfl) ?_
      refine lv_iload_n Z.1 Z.2.1 dJ7_fill_031fb_11 rfl (lv_at hl 2 rfl) ?_
      refine lv_iload_n Z.1 Z.2.1 dJ7_fill_031fb_12 rfl (lv_at hl 1 rfl) ?_
      refine zk_bast Z hK G 0 rfl (k := k) (by omega) (by omega) (zs_fill_s (fun _ => vp_nar .byte v) _ _) (ws' := [(ad, .inl (g 2, N, .inl (zs_fill (fun _ => vp_nar .byte v) F (k + 1))))]) rfl dJ7_fill_031fb_13 (fun H locs G => ?_)
      refine lv_iinc (v := nI (k + 1)) (lv' := [(2, .int (nI (k + 1))), (0, .ref ad), (1, .int v), (3, .int (nI N))]) Z.1 Z.2.1 dJ7_fill_031fb_14 hl (k := 2) rfl (zk_inc k 1) (by decide) rfl (fun ls hl => ?_)
      refine lv_goto (tgt := 5) Z.1 Z.2.1 dJ7_fill_031fb_17 (by decide) ?_
      exact ih5 (k + 1) (by omega) (by omega) _ _ _ G (lv_sub hl [1, 2, 0, 3] rfl)
  exact L5 _ 0 (Nat.lt_succ_self _) (by omega) _ _ _ G (lv_sub hl [2, 3, 1, 0] rfl)

abbrev rm_J7_fill_53178 : Room := { frames := 0, cells := 0, slots := 0, locals := 0 }
theorem dvJ7_fill_53178 : zk_dv yJ7_fill_53178 RJ7 2 := by decide +kernel
set_option maxRecDepth 100000 in
set_option maxHeartbeats 4000000 in
theorem ct_J7_fill_53178 (l : Launch) (D : va_G) (g : Nat → ClassId) (τ : Nat → Nat) (ad : Nat) (v : Int32) (N : Nat) (F : Nat → Int32) (hN : N < 2 ^ 31) : zk_MV l D g τ yJ7_fill_53178 wsJ7_fill_53178 rm_J7_fill_53178 [.ref ad, .int v] [(ad, .inl (g 0, N, .inl F))] (fun (_ : Unit) => True) (fun (_ : Unit) => [(ad, .inl (g 0, N, .inl (zs_fill (fun _ => v) F N)))]) := by
  refine zk_of (Qc := fun A => va_Qv (fun (_ : Unit) => True) (zk_B D g A (fun (_ : Unit) => [(ad, .inl (g 0, N, .inl (zs_fill (fun _ => v) F N)))])) A) (cc := cJ7_fill_53178) (maxL := 4) (ret := none) (own := RJ7) (by decide) rfl rfl (Nat.le_of_ble_eq_true rfl) ?_
  intro pP eE sS mM args below meth cC aA ls qQ Z hR_ hlk hnm hK hT hA hQ G hl
  have G : zk_G D aA [(ad, .inl (g 0, N, .inl (zs_fill (fun _ => v) F 0)))] sS sS.heap [] := (by rw [zs_fill_0]; exact G)
  refine lv_iconst (v := nI 0) Z.1 Z.2.1 dJ7_fill_53178_0 (by decide +kernel) ?_
  refine lv_istore_n (lv' := [(2, .int (nI 0)), (0, .ref ad), (1, .int v)]) Z.1 Z.2.1 dJ7_fill_53178_1 rfl hl (by decide) rfl (fun ls hl => ?_)
  refine lv_aload_n Z.1 Z.2.1 dJ7_fill_53178_2 rfl (lv_at hl 1 rfl) ?_
  refine zk_alen Z hK G 0 0 rfl rfl (v := nI N) rfl dJ7_fill_53178_3 ?_
  refine lv_istore_n (lv' := [(3, .int (nI N)), (2, .int (nI 0)), (0, .ref ad), (1, .int v)]) Z.1 Z.2.1 dJ7_fill_53178_4 rfl hl (by decide) rfl (fun ls hl => ?_)
  have L5 : ∀ (nN : Nat) (k : Nat), N - k < nN → (k ≤ N) → ∀ (H : Heap) (locs : List Loc) (ls : Array Slot), zk_G D aA [(ad, .inl (g 0, N, .inl (zs_fill (fun _ => v) F k)))] sS H locs → lv_has ls 4 [(0, .ref ad), (1, .int v), (2, .int (nI k)), (3, .int (nI N))] → W pP l eE rm_J7_fill_53178 sS mM args below meth cC H locs 0 0 qQ (F0 mM 5 ls []) := by
    intro nN
    induction nN with
    | zero => intros; omega
    | succ nN ih5 =>
      intro k hμ h1 H locs ls G hl
      refine lv_iload_n Z.1 Z.2.1 dJ7_fill_53178_5 rfl (lv_at hl 2 rfl) ?_
      refine lv_iload_n Z.1 Z.2.1 dJ7_fill_53178_6 rfl (lv_at hl 3 rfl) ?_
      refine lv_icmp_ge (tgt := 20) Z.1 Z.2.1 dJ7_fill_53178_7 (by decide) (fun c7 => ?_) (fun c7 => ?_)
      · have c7 : N ≤ k := zk_le (by omega) (by omega) c7
        exact zk_retv Z hR_ hlk hK hQ G () trivial (by rw [show k = N by omega]) dJ7_fill_53178_20
      have c7 : k < N := zk_nle (by omega) (by omega) c7
      refine lv_aload_n Z.1 Z.2.1 dJ7_fill_53178_10 rfl (lv_at hl 0 rfl) ?_
      refine lv_iload_n Z.1 Z.2.1 dJ7_fill_53178_11 rfl (lv_at hl 2 rfl) ?_
      refine lv_iload_n Z.1 Z.2.1 dJ7_fill_53178_12 rfl (lv_at hl 1 rfl) ?_
      refine zk_iast Z hK G 0 rfl (k := k) (by omega) (by omega) (zs_fill_s (fun _ => v) _ _) (ws' := [(ad, .inl (g 0, N, .inl (zs_fill (fun _ => v) F (k + 1))))]) rfl dJ7_fill_53178_13 (fun H locs G => ?_)
      refine lv_iinc (v := nI (k + 1)) (lv' := [(2, .int (nI (k + 1))), (0, .ref ad), (1, .int v), (3, .int (nI N))]) Z.1 Z.2.1 dJ7_fill_53178_14 hl (k := 2) rfl (zk_inc k 1) (by decide) rfl (fun ls hl => ?_)
      refine lv_goto (tgt := 5) Z.1 Z.2.1 dJ7_fill_53178_17 (by decide) ?_
      exact ih5 (k + 1) (by omega) (by omega) _ _ _ G (lv_sub hl [1, 2, 0, 3] rfl)
  exact L5 _ 0 (Nat.lt_succ_self _) (by omega) _ _ _ G (lv_sub hl [2, 3, 1, 0] rfl)

abbrev rm_J7_fill_d0a16 : Room := { frames := 0, cells := 0, slots := 0, locals := 0 }
theorem dvJ7_fill_d0a16 : zk_dv yJ7_fill_d0a16 RJ7 2 := by decide +kernel
set_option maxRecDepth 100000 in
set_option maxHeartbeats 4000000 in
theorem ct_J7_fill_d0a16 (l : Launch) (D : va_G) (g : Nat → ClassId) (τ : Nat → Nat) (ad : Nat) (v : Int64) (N : Nat) (F : Nat → Int64) (hN : N < 2 ^ 31) : zk_MV l D g τ yJ7_fill_d0a16 wsJ7_fill_d0a16 rm_J7_fill_d0a16 [.ref ad, .long v] [(ad, .inl (g 1, N, .inr (.inl F)))] (fun (_ : Unit) => True) (fun (_ : Unit) => [(ad, .inl (g 1, N, .inr (.inl (zs_fill (fun _ => v) F N))))]) := by
  refine zk_of (Qc := fun A => va_Qv (fun (_ : Unit) => True) (zk_B D g A (fun (_ : Unit) => [(ad, .inl (g 1, N, .inr (.inl (zs_fill (fun _ => v) F N))))])) A) (cc := cJ7_fill_d0a16) (maxL := 5) (ret := none) (own := RJ7) (by decide) rfl rfl (Nat.le_of_ble_eq_true rfl) ?_
  intro pP eE sS mM args below meth cC aA ls qQ Z hR_ hlk hnm hK hT hA hQ G hl
  have G : zk_G D aA [(ad, .inl (g 1, N, .inr (.inl (zs_fill (fun _ => v) F 0))))] sS sS.heap [] := (by rw [zs_fill_0]; exact G)
  refine lv_iconst (v := nI 0) Z.1 Z.2.1 dJ7_fill_d0a16_0 (by decide +kernel) ?_
  refine lv_istore_n (lv' := [(3, .int (nI 0)), (0, .ref ad), (1, .long v)]) Z.1 Z.2.1 dJ7_fill_d0a16_1 rfl hl (by decide) rfl (fun ls hl => ?_)
  refine lv_aload_n Z.1 Z.2.1 dJ7_fill_d0a16_2 rfl (lv_at hl 1 rfl) ?_
  refine zk_alen Z hK G 0 1 rfl rfl (v := nI N) rfl dJ7_fill_d0a16_3 ?_
  refine lv_istore (lv' := [(4, .int (nI N)), (3, .int (nI 0)), (0, .ref ad), (1, .long v)]) Z.1 Z.2.1 dJ7_fill_d0a16_4 hl (by decide) rfl (fun ls hl => ?_)
  have L6 : ∀ (nN : Nat) (k : Nat), N - k < nN → (k ≤ N) → ∀ (H : Heap) (locs : List Loc) (ls : Array Slot), zk_G D aA [(ad, .inl (g 1, N, .inr (.inl (zs_fill (fun _ => v) F k))))] sS H locs → lv_has ls 5 [(0, .ref ad), (1, .long v), (3, .int (nI k)), (4, .int (nI N))] → W pP l eE rm_J7_fill_d0a16 sS mM args below meth cC H locs 0 0 qQ (F0 mM 6 ls []) := by
    intro nN
    induction nN with
    | zero => intros; omega
    | succ nN ih6 =>
      intro k hμ h1 H locs ls G hl
      refine lv_iload_n Z.1 Z.2.1 dJ7_fill_d0a16_6 rfl (lv_at hl 2 rfl) ?_
      refine lv_iload Z.1 Z.2.1 dJ7_fill_d0a16_7 (lv_at hl 3 rfl) ?_
      refine lv_icmp_ge (tgt := 22) Z.1 Z.2.1 dJ7_fill_d0a16_9 (by decide) (fun c9 => ?_) (fun c9 => ?_)
      · have c9 : N ≤ k := zk_le (by omega) (by omega) c9
        exact zk_retv Z hR_ hlk hK hQ G () trivial (by rw [show k = N by omega]) dJ7_fill_d0a16_22
      have c9 : k < N := zk_nle (by omega) (by omega) c9
      refine lv_aload_n Z.1 Z.2.1 dJ7_fill_d0a16_12 rfl (lv_at hl 0 rfl) ?_
      refine lv_iload_n Z.1 Z.2.1 dJ7_fill_d0a16_13 rfl (lv_at hl 2 rfl) ?_
      refine lv_lload_n Z.1 Z.2.1 dJ7_fill_d0a16_14 rfl (lv_at hl 1 rfl) ?_
      refine zk_last Z hK G 0 rfl (k := k) (by omega) (by omega) (zs_fill_L (fun _ => v) _ _) (ws' := [(ad, .inl (g 1, N, .inr (.inl (zs_fill (fun _ => v) F (k + 1)))))]) rfl dJ7_fill_d0a16_15 (fun H locs G => ?_)
      refine lv_iinc (v := nI (k + 1)) (lv' := [(3, .int (nI (k + 1))), (0, .ref ad), (1, .long v), (4, .int (nI N))]) Z.1 Z.2.1 dJ7_fill_d0a16_16 hl (k := 2) rfl (zk_inc k 1) (by decide) rfl (fun ls hl => ?_)
      refine lv_goto (tgt := 6) Z.1 Z.2.1 dJ7_fill_d0a16_19 (by decide) ?_
      exact ih6 (k + 1) (by omega) (by omega) _ _ _ G (lv_sub hl [1, 2, 0, 3] rfl)
  exact L6 _ 0 (Nat.lt_succ_self _) (by omega) _ _ _ G (lv_sub hl [2, 3, 1, 0] rfl)

abbrev rm_X0_dropFirst : Room := { frames := 1, cells := 0, slots := 0, locals := 60 }
theorem dvX0_dropFirst : zk_dv yX0_dropFirst RX0 0 := by decide +kernel
set_option maxRecDepth 100000 in
set_option maxHeartbeats 4000000 in
theorem ct_X0_dropFirst (l : Launch) (D : va_G) (g : Nat → ClassId) (τ : Nat → Nat) (a : Nat → Nat) (d : Nat) (z : Nat) (N : Nat → Nat) (A1 : Nat → Nat) (O1 : Nat → Nat) (F : Nat → Nat)  : zk_MV l D g τ yX0_dropFirst wsX0_dropFirst rm_X0_dropFirst [.ref (a 4)] [(a 4, .inr (0, [.int (nI d), .int (nI z), .ref (a 40), .ref (a 41), .ref (a 42), .ref (a 43)])), (a 40, .inl (g 0, 40, .inl (fun i => nI (N i)))), (a 41, .inl (g 0, 40, .inl (fun i => nI (A1 i)))), (a 42, .inl (g 0, 40, .inl (fun i => nI (O1 i)))), (a 43, .inl (g 0, 40, .inl (fun i => nI (F i))))] (fun (_ : Unit) => True) (fun (_ : Unit) => [(a 4, .inr (0, [.int (nI 39), .int (nI z), .ref (a 40), .ref (a 41), .ref (a 42), .ref (a 43)])), (a 40, .inl (g 0, 40, .inl (fun i => nI (zc_sh N i)))), (a 41, .inl (g 0, 40, .inl (fun i => nI (zc_sh A1 i)))), (a 42, .inl (g 0, 40, .inl (fun i => nI (zc_sh O1 i)))), (a 43, .inl (g 0, 40, .inl (fun i => nI (zc_sh F i))))]) := by
  refine zk_of (Qc := fun A => va_Qv (fun (_ : Unit) => True) (zk_B D g A (fun (_ : Unit) => [(a 4, .inr (0, [.int (nI 39), .int (nI z), .ref (a 40), .ref (a 41), .ref (a 42), .ref (a 43)])), (a 40, .inl (g 0, 40, .inl (fun i => nI (zc_sh N i)))), (a 41, .inl (g 0, 40, .inl (fun i => nI (zc_sh A1 i)))), (a 42, .inl (g 0, 40, .inl (fun i => nI (zc_sh O1 i)))), (a 43, .inl (g 0, 40, .inl (fun i => nI (zc_sh F i))))])) A) (cc := cX0_dropFirst) (maxL := 1) (ret := none) (own := RX0) (by decide) rfl rfl (Nat.le_of_ble_eq_true rfl) ?_
  intro pP eE sS mM args below meth cC aA ls qQ Z hR_ hlk hnm hK hT hA hQ G hl
  have hinX0 : ∀ w ∈ u_ws RX0 TX0 6, w ∈ wsX0_dropFirst := (fun _ h => List.mem_cons_of_mem _ (List.mem_append_right _ h))
  refine lv_aload_n Z.1 Z.2.1 dX0_dropFirst_0 rfl (lv_at hl 0 rfl) ?_
  refine zk_get (C := RX0) (T := TX0) (N := 6) (ci := 0) Z hK G hinX0 0 rfl rfl 2 (by decide) (List.mem_of_getElem? (i := 1) rfl) rfl (v := .ref (a 40)) rfl dX0_dropFirst_1 ?_
  refine lv_iconst (v := nI 1) Z.1 Z.2.1 dX0_dropFirst_4 (by decide +kernel) ?_
  refine lv_aload_n Z.1 Z.2.1 dX0_dropFirst_5 rfl (lv_at hl 0 rfl) ?_
  refine zk_get (C := RX0) (T := TX0) (N := 6) (ci := 0) Z hK G hinX0 0 rfl rfl 2 (by decide) (List.mem_of_getElem? (i := 1) rfl) rfl (v := .ref (a 40)) rfl dX0_dropFirst_6 ?_
  refine lv_iconst (v := nI 0) Z.1 Z.2.1 dX0_dropFirst_9 (by decide +kernel) ?_
  refine lv_bipush (v := nI 39) Z.1 Z.2.1 dX0_dropFirst_10 (by decide +kernel) ?_
  refine zk_copyi Z hl.1 (List.mem_of_getElem? (i := 2) rfl) (List.mem_of_getElem? (i := 3) rfl) (List.mem_of_getElem? (i := 4) rfl) (List.mem_of_getElem? (i := 5) rfl) hK G 1 1 rfl rfl (sp := 1) (dp := 0) (n := 39) (by omega) (by omega) (by decide) (by decide) (by decide) (by decide) (zc_sh_e N) (ws' := [(a 4, .inr (0, [.int (nI d), .int (nI z), .ref (a 40), .ref (a 41), .ref (a 42), .ref (a 43)])), (a 40, .inl (g 0, 40, .inl (fun i => nI (zc_sh N i)))), (a 41, .inl (g 0, 40, .inl (fun i => nI (A1 i)))), (a 42, .inl (g 0, 40, .inl (fun i => nI (O1 i)))), (a 43, .inl (g 0, 40, .inl (fun i => nI (F i))))]) rfl dX0_dropFirst_12 (fun H locs G => ?_)
  refine lv_aload_n Z.1 Z.2.1 dX0_dropFirst_15 rfl (lv_at hl 0 rfl) ?_
  refine zk_get (C := RX0) (T := TX0) (N := 6) (ci := 0) Z hK G hinX0 0 rfl rfl 3 (by decide) (List.mem_of_getElem? (i := 6) rfl) rfl (v := .ref (a 41)) rfl dX0_dropFirst_16 ?_
  refine lv_iconst (v := nI 1) Z.1 Z.2.1 dX0_dropFirst_19 (by decide +kernel) ?_
  refine lv_aload_n Z.1 Z.2.1 dX0_dropFirst_20 rfl (lv_at hl 0 rfl) ?_
  refine zk_get (C := RX0) (T := TX0) (N := 6) (ci := 0) Z hK G hinX0 0 rfl rfl 3 (by decide) (List.mem_of_getElem? (i := 6) rfl) rfl (v := .ref (a 41)) rfl dX0_dropFirst_21 ?_
  refine lv_iconst (v := nI 0) Z.1 Z.2.1 dX0_dropFirst_24 (by decide +kernel) ?_
  refine lv_bipush (v := nI 39) Z.1 Z.2.1 dX0_dropFirst_25 (by decide +kernel) ?_
  refine zk_copyi Z hl.1 (List.mem_of_getElem? (i := 2) rfl) (List.mem_of_getElem? (i := 3) rfl) (List.mem_of_getElem? (i := 4) rfl) (List.mem_of_getElem? (i := 5) rfl) hK G 2 2 rfl rfl (sp := 1) (dp := 0) (n := 39) (by omega) (by omega) (by decide) (by decide) (by decide) (by decide) (zc_sh_e A1) (ws' := [(a 4, .inr (0, [.int (nI d), .int (nI z), .ref (a 40), .ref (a 41), .ref (a 42), .ref (a 43)])), (a 40, .inl (g 0, 40, .inl (fun i => nI (zc_sh N i)))), (a 41, .inl (g 0, 40, .inl (fun i => nI (zc_sh A1 i)))), (a 42, .inl (g 0, 40, .inl (fun i => nI (O1 i)))), (a 43, .inl (g 0, 40, .inl (fun i => nI (F i))))]) rfl dX0_dropFirst_27 (fun H locs G => ?_)
  refine lv_aload_n Z.1 Z.2.1 dX0_dropFirst_30 rfl (lv_at hl 0 rfl) ?_
  refine zk_get (C := RX0) (T := TX0) (N := 6) (ci := 0) Z hK G hinX0 0 rfl rfl 4 (by decide) (List.mem_of_getElem? (i := 7) rfl) rfl (v := .ref (a 42)) rfl dX0_dropFirst_31 ?_
  refine lv_iconst (v := nI 1) Z.1 Z.2.1 dX0_dropFirst_34 (by decide +kernel) ?_
  refine lv_aload_n Z.1 Z.2.1 dX0_dropFirst_35 rfl (lv_at hl 0 rfl) ?_
  refine zk_get (C := RX0) (T := TX0) (N := 6) (ci := 0) Z hK G hinX0 0 rfl rfl 4 (by decide) (List.mem_of_getElem? (i := 7) rfl) rfl (v := .ref (a 42)) rfl dX0_dropFirst_36 ?_
  refine lv_iconst (v := nI 0) Z.1 Z.2.1 dX0_dropFirst_39 (by decide +kernel) ?_
  refine lv_bipush (v := nI 39) Z.1 Z.2.1 dX0_dropFirst_40 (by decide +kernel) ?_
  refine zk_copyi Z hl.1 (List.mem_of_getElem? (i := 2) rfl) (List.mem_of_getElem? (i := 3) rfl) (List.mem_of_getElem? (i := 4) rfl) (List.mem_of_getElem? (i := 5) rfl) hK G 3 3 rfl rfl (sp := 1) (dp := 0) (n := 39) (by omega) (by omega) (by decide) (by decide) (by decide) (by decide) (zc_sh_e O1) (ws' := [(a 4, .inr (0, [.int (nI d), .int (nI z), .ref (a 40), .ref (a 41), .ref (a 42), .ref (a 43)])), (a 40, .inl (g 0, 40, .inl (fun i => nI (zc_sh N i)))), (a 41, .inl (g 0, 40, .inl (fun i => nI (zc_sh A1 i)))), (a 42, .inl (g 0, 40, .inl (fun i => nI (zc_sh O1 i)))), (a 43, .inl (g 0, 40, .inl (fun i => nI (F i))))]) rfl dX0_dropFirst_42 (fun H locs G => ?_)
  refine lv_aload_n Z.1 Z.2.1 dX0_dropFirst_45 rfl (lv_at hl 0 rfl) ?_
  refine zk_get (C := RX0) (T := TX0) (N := 6) (ci := 0) Z hK G hinX0 0 rfl rfl 5 (by decide) (List.mem_of_getElem? (i := 8) rfl) rfl (v := .ref (a 43)) rfl dX0_dropFirst_46 ?_
  refine lv_iconst (v := nI 1) Z.1 Z.2.1 dX0_dropFirst_49 (by decide +kernel) ?_
  refine lv_aload_n Z.1 Z.2.1 dX0_dropFirst_50 rfl (lv_at hl 0 rfl) ?_
  refine zk_get (C := RX0) (T := TX0) (N := 6) (ci := 0) Z hK G hinX0 0 rfl rfl 5 (by decide) (List.mem_of_getElem? (i := 8) rfl) rfl (v := .ref (a 43)) rfl dX0_dropFirst_51 ?_
  refine lv_iconst (v := nI 0) Z.1 Z.2.1 dX0_dropFirst_54 (by decide +kernel) ?_
  refine lv_bipush (v := nI 39) Z.1 Z.2.1 dX0_dropFirst_55 (by decide +kernel) ?_
  refine zk_copyi Z hl.1 (List.mem_of_getElem? (i := 2) rfl) (List.mem_of_getElem? (i := 3) rfl) (List.mem_of_getElem? (i := 4) rfl) (List.mem_of_getElem? (i := 5) rfl) hK G 4 4 rfl rfl (sp := 1) (dp := 0) (n := 39) (by omega) (by omega) (by decide) (by decide) (by decide) (by decide) (zc_sh_e F) (ws' := [(a 4, .inr (0, [.int (nI d), .int (nI z), .ref (a 40), .ref (a 41), .ref (a 42), .ref (a 43)])), (a 40, .inl (g 0, 40, .inl (fun i => nI (zc_sh N i)))), (a 41, .inl (g 0, 40, .inl (fun i => nI (zc_sh A1 i)))), (a 42, .inl (g 0, 40, .inl (fun i => nI (zc_sh O1 i)))), (a 43, .inl (g 0, 40, .inl (fun i => nI (zc_sh F i))))]) rfl dX0_dropFirst_57 (fun H locs G => ?_)
  refine lv_aload_n Z.1 Z.2.1 dX0_dropFirst_60 rfl (lv_at hl 0 rfl) ?_
  refine lv_bipush (v := nI 39) Z.1 Z.2.1 dX0_dropFirst_61 (by decide +kernel) ?_
  refine zk_put tyX0 tyX0_ok nmX0 (C := RX0) (T := TX0) (N := 6) (ci := 0) Z hK G hinX0 0 rfl rfl 0 (by decide) (List.mem_of_getElem? (i := 9) rfl) rfl rfl rfl rfl (Nat.le_of_ble_eq_true rfl) (ws' := [(a 4, .inr (0, [.int (nI 39), .int (nI z), .ref (a 40), .ref (a 41), .ref (a 42), .ref (a 43)])), (a 40, .inl (g 0, 40, .inl (fun i => nI (zc_sh N i)))), (a 41, .inl (g 0, 40, .inl (fun i => nI (zc_sh A1 i)))), (a 42, .inl (g 0, 40, .inl (fun i => nI (zc_sh O1 i)))), (a 43, .inl (g 0, 40, .inl (fun i => nI (zc_sh F i))))]) rfl dX0_dropFirst_63 (fun H locs G => ?_)
  exact zk_retv Z hR_ hlk hK hQ G () trivial rfl dX0_dropFirst_66

abbrev rm_X0_note : Room := { frames := 2, cells := 0, slots := 0, locals := 80 }
theorem dvX0_note : zk_dv yX0_note RX0 4 := by decide +kernel
set_option maxRecDepth 100000 in
set_option maxHeartbeats 4000000 in
theorem ct_X0_note (l : Launch) (D : va_G) (g : Nat → ClassId) (τ : Nat → Nat) (a : Nat → Nat) (d : Nat) (z : Nat) (N : Nat → Nat) (A1 : Nat → Nat) (O1 : Nat → Nat) (F : Nat → Nat) (x0 : Nat) (x1 : Nat) (x2 : Nat) (x3 : Nat) (hd : d ≤ 40) : zk_MV l D g τ yX0_note wsX0_note rm_X0_note [.ref (a 4), .int (nI x0), .int (nI x1), .int (nI x2), .int (nI x3)] [(a 4, .inr (0, [.int (nI d), .int (nI z), .ref (a 40), .ref (a 41), .ref (a 42), .ref (a 43)])), (a 40, .inl (g 0, 40, .inl (fun i => nI (N i)))), (a 41, .inl (g 0, 40, .inl (fun i => nI (A1 i)))), (a 42, .inl (g 0, 40, .inl (fun i => nI (O1 i)))), (a 43, .inl (g 0, 40, .inl (fun i => nI (F i))))] (fun (_ : Unit) => True) (fun (_ : Unit) => [(a 4, .inr (0, [.int (nI (zc_d d + 1)), .int (nI (zc_d d + 1)), .ref (a 40), .ref (a 41), .ref (a 42), .ref (a 43)])), (a 40, .inl (g 0, 40, .inl (fun i => nI (zs_up (zc_f d N) (zc_d d) x0 i)))), (a 41, .inl (g 0, 40, .inl (fun i => nI (zs_up (zc_f d A1) (zc_d d) x1 i)))), (a 42, .inl (g 0, 40, .inl (fun i => nI (zs_up (zc_f d O1) (zc_d d) x2 i)))), (a 43, .inl (g 0, 40, .inl (fun i => nI (zs_up (zc_f d F) (zc_d d) x3 i))))]) := by
  refine zk_of (Qc := fun A => va_Qv (fun (_ : Unit) => True) (zk_B D g A (fun (_ : Unit) => [(a 4, .inr (0, [.int (nI (zc_d d + 1)), .int (nI (zc_d d + 1)), .ref (a 40), .ref (a 41), .ref (a 42), .ref (a 43)])), (a 40, .inl (g 0, 40, .inl (fun i => nI (zs_up (zc_f d N) (zc_d d) x0 i)))), (a 41, .inl (g 0, 40, .inl (fun i => nI (zs_up (zc_f d A1) (zc_d d) x1 i)))), (a 42, .inl (g 0, 40, .inl (fun i => nI (zs_up (zc_f d O1) (zc_d d) x2 i)))), (a 43, .inl (g 0, 40, .inl (fun i => nI (zs_up (zc_f d F) (zc_d d) x3 i))))])) A) (cc := cX0_note) (maxL := 5) (ret := none) (own := RX0) (by decide) rfl rfl (Nat.le_of_ble_eq_true rfl) ?_
  intro pP eE sS mM args below meth cC aA ls qQ Z hR_ hlk hnm hK hT hA hQ G hl
  have hinX0 : ∀ w ∈ u_ws RX0 TX0 6, w ∈ wsX0_note := (fun _ h => List.mem_cons_of_mem _ (List.mem_append_right _ h))
  refine lv_aload_n Z.1 Z.2.1 dX0_note_0 rfl (lv_at hl 0 rfl) ?_
  refine zk_get (C := RX0) (T := TX0) (N := 6) (ci := 0) Z hK G hinX0 0 rfl rfl 0 (by decide) (List.mem_of_getElem? (i := 1) rfl) rfl (v := .int (nI d)) rfl dX0_note_1 ?_
  refine lv_bipush (v := nI 40) Z.1 Z.2.1 dX0_note_4 (by decide +kernel) ?_
  refine lv_icmp_lt (tgt := 13) Z.1 Z.2.1 dX0_note_6 (by decide) (fun c6 => ?_) (fun c6 => ?_)
  · have c6 : d < 40 := zk_lt (by omega) (by omega) c6
    refine lv_aload_n Z.1 Z.2.1 dX0_note_13 rfl (lv_at hl 0 rfl) ?_
    refine zk_get (C := RX0) (T := TX0) (N := 6) (ci := 0) Z hK G hinX0 0 rfl rfl 2 (by decide) (List.mem_of_getElem? (i := 2) rfl) rfl (v := .ref (a 40)) rfl dX0_note_14 ?_
    refine lv_aload_n Z.1 Z.2.1 dX0_note_17 rfl (lv_at hl 0 rfl) ?_
    refine zk_get (C := RX0) (T := TX0) (N := 6) (ci := 0) Z hK G hinX0 0 rfl rfl 0 (by decide) (List.mem_of_getElem? (i := 1) rfl) rfl (v := .int (nI d)) rfl dX0_note_18 ?_
    refine lv_iload_n Z.1 Z.2.1 dX0_note_21 rfl (lv_at hl 1 rfl) ?_
    refine zk_iast Z hK G 1 rfl (k := d) (by omega) (by decide) (zs_up_n _ _ _) (ws' := [(a 4, .inr (0, [.int (nI d), .int (nI z), .ref (a 40), .ref (a 41), .ref (a 42), .ref (a 43)])), (a 40, .inl (g 0, 40, .inl (fun i => nI (zs_up N d x0 i)))), (a 41, .inl (g 0, 40, .inl (fun i => nI (A1 i)))), (a 42, .inl (g 0, 40, .inl (fun i => nI (O1 i)))), (a 43, .inl (g 0, 40, .inl (fun i => nI (F i))))]) rfl dX0_note_22 (fun H locs G => ?_)
    refine lv_aload_n Z.1 Z.2.1 dX0_note_23 rfl (lv_at hl 0 rfl) ?_
    refine zk_get (C := RX0) (T := TX0) (N := 6) (ci := 0) Z hK G hinX0 0 rfl rfl 3 (by decide) (List.mem_of_getElem? (i := 3) rfl) rfl (v := .ref (a 41)) rfl dX0_note_24 ?_
    refine lv_aload_n Z.1 Z.2.1 dX0_note_27 rfl (lv_at hl 0 rfl) ?_
    refine zk_get (C := RX0) (T := TX0) (N := 6) (ci := 0) Z hK G hinX0 0 rfl rfl 0 (by decide) (List.mem_of_getElem? (i := 1) rfl) rfl (v := .int (nI d)) rfl dX0_note_28 ?_
    refine lv_iload_n Z.1 Z.2.1 dX0_note_31 rfl (lv_at hl 2 rfl) ?_
    refine zk_iast Z hK G 2 rfl (k := d) (by omega) (by decide) (zs_up_n _ _ _) (ws' := [(a 4, .inr (0, [.int (nI d), .int (nI z), .ref (a 40), .ref (a 41), .ref (a 42), .ref (a 43)])), (a 40, .inl (g 0, 40, .inl (fun i => nI (zs_up N d x0 i)))), (a 41, .inl (g 0, 40, .inl (fun i => nI (zs_up A1 d x1 i)))), (a 42, .inl (g 0, 40, .inl (fun i => nI (O1 i)))), (a 43, .inl (g 0, 40, .inl (fun i => nI (F i))))]) rfl dX0_note_32 (fun H locs G => ?_)
    refine lv_aload_n Z.1 Z.2.1 dX0_note_33 rfl (lv_at hl 0 rfl) ?_
    refine zk_get (C := RX0) (T := TX0) (N := 6) (ci := 0) Z hK G hinX0 0 rfl rfl 4 (by decide) (List.mem_of_getElem? (i := 4) rfl) rfl (v := .ref (a 42)) rfl dX0_note_34 ?_
    refine lv_aload_n Z.1 Z.2.1 dX0_note_37 rfl (lv_at hl 0 rfl) ?_
    refine zk_get (C := RX0) (T := TX0) (N := 6) (ci := 0) Z hK G hinX0 0 rfl rfl 0 (by decide) (List.mem_of_getElem? (i := 1) rfl) rfl (v := .int (nI d)) rfl dX0_note_38 ?_
    refine lv_iload_n Z.1 Z.2.1 dX0_note_41 rfl (lv_at hl 3 rfl) ?_
    refine zk_iast Z hK G 3 rfl (k := d) (by omega) (by decide) (zs_up_n _ _ _) (ws' := [(a 4, .inr (0, [.int (nI d), .int (nI z), .ref (a 40), .ref (a 41), .ref (a 42), .ref (a 43)])), (a 40, .inl (g 0, 40, .inl (fun i => nI (zs_up N d x0 i)))), (a 41, .inl (g 0, 40, .inl (fun i => nI (zs_up A1 d x1 i)))), (a 42, .inl (g 0, 40, .inl (fun i => nI (zs_up O1 d x2 i)))), (a 43, .inl (g 0, 40, .inl (fun i => nI (F i))))]) rfl dX0_note_42 (fun H locs G => ?_)
    refine lv_aload_n Z.1 Z.2.1 dX0_note_43 rfl (lv_at hl 0 rfl) ?_
    refine zk_get (C := RX0) (T := TX0) (N := 6) (ci := 0) Z hK G hinX0 0 rfl rfl 5 (by decide) (List.mem_of_getElem? (i := 5) rfl) rfl (v := .ref (a 43)) rfl dX0_note_44 ?_
    refine lv_aload_n Z.1 Z.2.1 dX0_note_47 rfl (lv_at hl 0 rfl) ?_
    refine zk_get (C := RX0) (T := TX0) (N := 6) (ci := 0) Z hK G hinX0 0 rfl rfl 0 (by decide) (List.mem_of_getElem? (i := 1) rfl) rfl (v := .int (nI d)) rfl dX0_note_48 ?_
    refine lv_iload Z.1 Z.2.1 dX0_note_51 (lv_at hl 4 rfl) ?_
    refine zk_iast Z hK G 4 rfl (k := d) (by omega) (by decide) (zs_up_n _ _ _) (ws' := [(a 4, .inr (0, [.int (nI d), .int (nI z), .ref (a 40), .ref (a 41), .ref (a 42), .ref (a 43)])), (a 40, .inl (g 0, 40, .inl (fun i => nI (zs_up N d x0 i)))), (a 41, .inl (g 0, 40, .inl (fun i => nI (zs_up A1 d x1 i)))), (a 42, .inl (g 0, 40, .inl (fun i => nI (zs_up O1 d x2 i)))), (a 43, .inl (g 0, 40, .inl (fun i => nI (zs_up F d x3 i))))]) rfl dX0_note_53 (fun H locs G => ?_)
    refine lv_aload_n Z.1 Z.2.1 dX0_note_54 rfl (lv_at hl 0 rfl) ?_
    refine lv_dup Z.1 Z.2.1 dX0_note_55 rfl ?_
    refine zk_get (C := RX0) (T := TX0) (N := 6) (ci := 0) Z hK G hinX0 0 rfl rfl 0 (by decide) (List.mem_of_getElem? (i := 1) rfl) rfl (v := .int (nI d)) rfl dX0_note_56 ?_
    refine lv_iconst (v := nI 1) Z.1 Z.2.1 dX0_note_59 (by decide +kernel) ?_
    refine zk_iadd Z dX0_note_60 (z := nI (d + 1)) (nI_add _ _) ?_
    refine zk_put tyX0 tyX0_ok nmX0 (C := RX0) (T := TX0) (N := 6) (ci := 0) Z hK G hinX0 0 rfl rfl 0 (by decide) (List.mem_of_getElem? (i := 1) rfl) rfl rfl rfl rfl (Nat.le_of_ble_eq_true rfl) (ws' := [(a 4, .inr (0, [.int (nI (d + 1)), .int (nI z), .ref (a 40), .ref (a 41), .ref (a 42), .ref (a 43)])), (a 40, .inl (g 0, 40, .inl (fun i => nI (zs_up N d x0 i)))), (a 41, .inl (g 0, 40, .inl (fun i => nI (zs_up A1 d x1 i)))), (a 42, .inl (g 0, 40, .inl (fun i => nI (zs_up O1 d x2 i)))), (a 43, .inl (g 0, 40, .inl (fun i => nI (zs_up F d x3 i))))]) rfl dX0_note_61 (fun H locs G => ?_)
    refine lv_aload_n Z.1 Z.2.1 dX0_note_64 rfl (lv_at hl 0 rfl) ?_
    refine lv_aload_n Z.1 Z.2.1 dX0_note_65 rfl (lv_at hl 0 rfl) ?_
    refine zk_get (C := RX0) (T := TX0) (N := 6) (ci := 0) Z hK G hinX0 0 rfl rfl 0 (by decide) (List.mem_of_getElem? (i := 1) rfl) rfl (v := .int (nI (d + 1))) rfl dX0_note_66 ?_
    refine zk_put tyX0 tyX0_ok nmX0 (C := RX0) (T := TX0) (N := 6) (ci := 0) Z hK G hinX0 0 rfl rfl 1 (by decide) (List.mem_of_getElem? (i := 6) rfl) rfl rfl rfl rfl (Nat.le_of_ble_eq_true rfl) (ws' := [(a 4, .inr (0, [.int (nI (d + 1)), .int (nI (d + 1)), .ref (a 40), .ref (a 41), .ref (a 42), .ref (a 43)])), (a 40, .inl (g 0, 40, .inl (fun i => nI (zs_up N d x0 i)))), (a 41, .inl (g 0, 40, .inl (fun i => nI (zs_up A1 d x1 i)))), (a 42, .inl (g 0, 40, .inl (fun i => nI (zs_up O1 d x2 i)))), (a 43, .inl (g 0, 40, .inl (fun i => nI (zs_up F d x3 i))))]) rfl dX0_note_69 (fun H locs G => ?_)
    exact zk_retv Z hR_ hlk hK hQ G () trivial (by simp only [zc_d, zc_f, if_pos c6]) dX0_note_72
  have c6 : 40 ≤ d := zk_nlt (by omega) (by omega) c6
  refine lv_aload_n Z.1 Z.2.1 dX0_note_9 rfl (lv_at hl 0 rfl) ?_
  refine zk_cv (WF := fun (_ : Unit) => [(a 4, .inr (0, [.int (nI 39), .int (nI z), .ref (a 40), .ref (a 41), .ref (a 42), .ref (a 43)])), (a 40, .inl (g 0, 40, .inl (fun i => nI (zc_sh N i)))), (a 41, .inl (g 0, 40, .inl (fun i => nI (zc_sh A1 i)))), (a 42, .inl (g 0, 40, .inl (fun i => nI (zc_sh O1 i)))), (a 43, .inl (g 0, 40, .inl (fun i => nI (zc_sh F i))))]) (wr := []) ⟨rfl, rfl⟩ (zk_rv (As := []) (rest := []) (q0 := 0) (ci := 0) Z ((ct_X0_dropFirst l D g τ a d z N A1 O1 F ) sS.heap.size) hK hT hA G [0, 1, 2, 3, 4] rfl (by decide) rfl rfl gX0_note_X0_dropFirst rfl dvX0_dropFirst ⟨by decide, by decide⟩ rfl hl.1 rfl (Nat.le_of_ble_eq_true rfl) dX0_note_10 ⟨Nat.zero_le _, Nat.zero_le _⟩) hA G [0, 1, 2, 3, 4] [] [0, 1, 2, 3, 4] rfl rfl (by decide) (by decide) (by decide) (fun _ => rfl) (fun _ H locs w_10 G => ?_)
  refine lv_aload_n Z.1 Z.2.1 dX0_note_13 rfl (lv_at hl 0 rfl) ?_
  refine zk_get (C := RX0) (T := TX0) (N := 6) (ci := 0) Z hK G hinX0 0 rfl rfl 2 (by decide) (List.mem_of_getElem? (i := 2) rfl) rfl (v := .ref (a 40)) rfl dX0_note_14 ?_
  refine lv_aload_n Z.1 Z.2.1 dX0_note_17 rfl (lv_at hl 0 rfl) ?_
  refine zk_get (C := RX0) (T := TX0) (N := 6) (ci := 0) Z hK G hinX0 0 rfl rfl 0 (by decide) (List.mem_of_getElem? (i := 1) rfl) rfl (v := .int (nI 39)) rfl dX0_note_18 ?_
  refine lv_iload_n Z.1 Z.2.1 dX0_note_21 rfl (lv_at hl 1 rfl) ?_
  refine zk_iast Z hK G 1 rfl (k := 39) (by omega) (by decide) (zs_up_n _ _ _) (ws' := [(a 4, .inr (0, [.int (nI 39), .int (nI z), .ref (a 40), .ref (a 41), .ref (a 42), .ref (a 43)])), (a 40, .inl (g 0, 40, .inl (fun i => nI (zs_up (zc_sh N) 39 x0 i)))), (a 41, .inl (g 0, 40, .inl (fun i => nI (zc_sh A1 i)))), (a 42, .inl (g 0, 40, .inl (fun i => nI (zc_sh O1 i)))), (a 43, .inl (g 0, 40, .inl (fun i => nI (zc_sh F i))))]) rfl dX0_note_22 (fun H locs G => ?_)
  refine lv_aload_n Z.1 Z.2.1 dX0_note_23 rfl (lv_at hl 0 rfl) ?_
  refine zk_get (C := RX0) (T := TX0) (N := 6) (ci := 0) Z hK G hinX0 0 rfl rfl 3 (by decide) (List.mem_of_getElem? (i := 3) rfl) rfl (v := .ref (a 41)) rfl dX0_note_24 ?_
  refine lv_aload_n Z.1 Z.2.1 dX0_note_27 rfl (lv_at hl 0 rfl) ?_
  refine zk_get (C := RX0) (T := TX0) (N := 6) (ci := 0) Z hK G hinX0 0 rfl rfl 0 (by decide) (List.mem_of_getElem? (i := 1) rfl) rfl (v := .int (nI 39)) rfl dX0_note_28 ?_
  refine lv_iload_n Z.1 Z.2.1 dX0_note_31 rfl (lv_at hl 2 rfl) ?_
  refine zk_iast Z hK G 2 rfl (k := 39) (by omega) (by decide) (zs_up_n _ _ _) (ws' := [(a 4, .inr (0, [.int (nI 39), .int (nI z), .ref (a 40), .ref (a 41), .ref (a 42), .ref (a 43)])), (a 40, .inl (g 0, 40, .inl (fun i => nI (zs_up (zc_sh N) 39 x0 i)))), (a 41, .inl (g 0, 40, .inl (fun i => nI (zs_up (zc_sh A1) 39 x1 i)))), (a 42, .inl (g 0, 40, .inl (fun i => nI (zc_sh O1 i)))), (a 43, .inl (g 0, 40, .inl (fun i => nI (zc_sh F i))))]) rfl dX0_note_32 (fun H locs G => ?_)
  refine lv_aload_n Z.1 Z.2.1 dX0_note_33 rfl (lv_at hl 0 rfl) ?_
  refine zk_get (C := RX0) (T := TX0) (N := 6) (ci := 0) Z hK G hinX0 0 rfl rfl 4 (by decide) (List.mem_of_getElem? (i := 4) rfl) rfl (v := .ref (a 42)) rfl dX0_note_34 ?_
  refine lv_aload_n Z.1 Z.2.1 dX0_note_37 rfl (lv_at hl 0 rfl) ?_
  refine zk_get (C := RX0) (T := TX0) (N := 6) (ci := 0) Z hK G hinX0 0 rfl rfl 0 (by decide) (List.mem_of_getElem? (i := 1) rfl) rfl (v := .int (nI 39)) rfl dX0_note_38 ?_
  refine lv_iload_n Z.1 Z.2.1 dX0_note_41 rfl (lv_at hl 3 rfl) ?_
  refine zk_iast Z hK G 3 rfl (k := 39) (by omega) (by decide) (zs_up_n _ _ _) (ws' := [(a 4, .inr (0, [.int (nI 39), .int (nI z), .ref (a 40), .ref (a 41), .ref (a 42), .ref (a 43)])), (a 40, .inl (g 0, 40, .inl (fun i => nI (zs_up (zc_sh N) 39 x0 i)))), (a 41, .inl (g 0, 40, .inl (fun i => nI (zs_up (zc_sh A1) 39 x1 i)))), (a 42, .inl (g 0, 40, .inl (fun i => nI (zs_up (zc_sh O1) 39 x2 i)))), (a 43, .inl (g 0, 40, .inl (fun i => nI (zc_sh F i))))]) rfl dX0_note_42 (fun H locs G => ?_)
  refine lv_aload_n Z.1 Z.2.1 dX0_note_43 rfl (lv_at hl 0 rfl) ?_
  refine zk_get (C := RX0) (T := TX0) (N := 6) (ci := 0) Z hK G hinX0 0 rfl rfl 5 (by decide) (List.mem_of_getElem? (i := 5) rfl) rfl (v := .ref (a 43)) rfl dX0_note_44 ?_
  refine lv_aload_n Z.1 Z.2.1 dX0_note_47 rfl (lv_at hl 0 rfl) ?_
  refine zk_get (C := RX0) (T := TX0) (N := 6) (ci := 0) Z hK G hinX0 0 rfl rfl 0 (by decide) (List.mem_of_getElem? (i := 1) rfl) rfl (v := .int (nI 39)) rfl dX0_note_48 ?_
  refine lv_iload Z.1 Z.2.1 dX0_note_51 (lv_at hl 4 rfl) ?_
  refine zk_iast Z hK G 4 rfl (k := 39) (by omega) (by decide) (zs_up_n _ _ _) (ws' := [(a 4, .inr (0, [.int (nI 39), .int (nI z), .ref (a 40), .ref (a 41), .ref (a 42), .ref (a 43)])), (a 40, .inl (g 0, 40, .inl (fun i => nI (zs_up (zc_sh N) 39 x0 i)))), (a 41, .inl (g 0, 40, .inl (fun i => nI (zs_up (zc_sh A1) 39 x1 i)))), (a 42, .inl (g 0, 40, .inl (fun i => nI (zs_up (zc_sh O1) 39 x2 i)))), (a 43, .inl (g 0, 40, .inl (fun i => nI (zs_up (zc_sh F) 39 x3 i))))]) rfl dX0_note_53 (fun H locs G => ?_)
  refine lv_aload_n Z.1 Z.2.1 dX0_note_54 rfl (lv_at hl 0 rfl) ?_
  refine lv_dup Z.1 Z.2.1 dX0_note_55 rfl ?_
  refine zk_get (C := RX0) (T := TX0) (N := 6) (ci := 0) Z hK G hinX0 0 rfl rfl 0 (by decide) (List.mem_of_getElem? (i := 1) rfl) rfl (v := .int (nI 39)) rfl dX0_note_56 ?_
  refine lv_iconst (v := nI 1) Z.1 Z.2.1 dX0_note_59 (by decide +kernel) ?_
  refine zk_iadd Z dX0_note_60 (z := nI (39 + 1)) (nI_add _ _) ?_
  refine zk_put tyX0 tyX0_ok nmX0 (C := RX0) (T := TX0) (N := 6) (ci := 0) Z hK G hinX0 0 rfl rfl 0 (by decide) (List.mem_of_getElem? (i := 1) rfl) rfl rfl rfl rfl (Nat.le_of_ble_eq_true rfl) (ws' := [(a 4, .inr (0, [.int (nI (39 + 1)), .int (nI z), .ref (a 40), .ref (a 41), .ref (a 42), .ref (a 43)])), (a 40, .inl (g 0, 40, .inl (fun i => nI (zs_up (zc_sh N) 39 x0 i)))), (a 41, .inl (g 0, 40, .inl (fun i => nI (zs_up (zc_sh A1) 39 x1 i)))), (a 42, .inl (g 0, 40, .inl (fun i => nI (zs_up (zc_sh O1) 39 x2 i)))), (a 43, .inl (g 0, 40, .inl (fun i => nI (zs_up (zc_sh F) 39 x3 i))))]) rfl dX0_note_61 (fun H locs G => ?_)
  refine lv_aload_n Z.1 Z.2.1 dX0_note_64 rfl (lv_at hl 0 rfl) ?_
  refine lv_aload_n Z.1 Z.2.1 dX0_note_65 rfl (lv_at hl 0 rfl) ?_
  refine zk_get (C := RX0) (T := TX0) (N := 6) (ci := 0) Z hK G hinX0 0 rfl rfl 0 (by decide) (List.mem_of_getElem? (i := 1) rfl) rfl (v := .int (nI (39 + 1))) rfl dX0_note_66 ?_
  refine zk_put tyX0 tyX0_ok nmX0 (C := RX0) (T := TX0) (N := 6) (ci := 0) Z hK G hinX0 0 rfl rfl 1 (by decide) (List.mem_of_getElem? (i := 6) rfl) rfl rfl rfl rfl (Nat.le_of_ble_eq_true rfl) (ws' := [(a 4, .inr (0, [.int (nI (39 + 1)), .int (nI (39 + 1)), .ref (a 40), .ref (a 41), .ref (a 42), .ref (a 43)])), (a 40, .inl (g 0, 40, .inl (fun i => nI (zs_up (zc_sh N) 39 x0 i)))), (a 41, .inl (g 0, 40, .inl (fun i => nI (zs_up (zc_sh A1) 39 x1 i)))), (a 42, .inl (g 0, 40, .inl (fun i => nI (zs_up (zc_sh O1) 39 x2 i)))), (a 43, .inl (g 0, 40, .inl (fun i => nI (zs_up (zc_sh F) 39 x3 i))))]) rfl dX0_note_69 (fun H locs G => ?_)
  exact zk_retv Z hR_ hlk hK hQ G () trivial (by simp only [zc_d, zc_f, if_neg (Nat.not_lt.mpr c6)]) dX0_note_72

abbrev rm_X0_stepBack : Room := { frames := 0, cells := 0, slots := 0, locals := 0 }
theorem dvX0_stepBack : zk_dv yX0_stepBack RX0 0 := by decide +kernel
set_option maxRecDepth 100000 in
set_option maxHeartbeats 4000000 in
theorem ct_X0_stepBack (l : Launch) (D : va_G) (g : Nat → ClassId) (τ : Nat → Nat) (a : Nat → Nat) (d : Nat) (z : Nat) (hd : 1 ≤ d) (hd2 : d ≤ 40) : zk_MI l D g τ yX0_stepBack wsX0_stepBack rm_X0_stepBack [.ref (a 4)] [(a 4, .inr (0, [.int (nI d), .int (nI z), .ref (a 40), .ref (a 41), .ref (a 42), .ref (a 43)]))] (fun (r : Int32) (_ : Unit) => r = nI (d - 1)) (fun (_ : Unit) => [(a 4, .inr (0, [.int (nI (d - 1)), .int (nI z), .ref (a 40), .ref (a 41), .ref (a 42), .ref (a 43)]))]) := by
  refine zk_of (Qc := fun A => va_Qi (fun (r : Int32) (_ : Unit) => r = nI (d - 1)) (zk_B D g A (fun (_ : Unit) => [(a 4, .inr (0, [.int (nI (d - 1)), .int (nI z), .ref (a 40), .ref (a 41), .ref (a 42), .ref (a 43)]))])) A) (cc := cX0_stepBack) (maxL := 1) (ret := (some .int)) (own := RX0) (by decide) rfl rfl (Nat.le_of_ble_eq_true rfl) ?_
  intro pP eE sS mM args below meth cC aA ls qQ Z hR_ hlk hnm hK hT hA hQ G hl
  have hinX0 : ∀ w ∈ u_ws RX0 TX0 6, w ∈ wsX0_stepBack := (fun _ h => List.mem_cons_of_mem _ (List.mem_append_right _ h))
  refine lv_aload_n Z.1 Z.2.1 dX0_stepBack_0 rfl (lv_at hl 0 rfl) ?_
  refine lv_dup Z.1 Z.2.1 dX0_stepBack_1 rfl ?_
  refine zk_get (C := RX0) (T := TX0) (N := 6) (ci := 0) Z hK G hinX0 0 rfl rfl 0 (by decide) (List.mem_of_getElem? (i := 1) rfl) rfl (v := .int (nI d)) rfl dX0_stepBack_2 ?_
  refine lv_iconst (v := nI 1) Z.1 Z.2.1 dX0_stepBack_5 (by decide +kernel) ?_
  refine zk_isub Z dX0_stepBack_6 (z := nI (d - 1)) (pk_sub (by omega)) ?_
  refine zk_put tyX0 tyX0_ok nmX0 (C := RX0) (T := TX0) (N := 6) (ci := 0) Z hK G hinX0 0 rfl rfl 0 (by decide) (List.mem_of_getElem? (i := 1) rfl) rfl rfl rfl rfl (Nat.le_of_ble_eq_true rfl) (ws' := [(a 4, .inr (0, [.int (nI (d - 1)), .int (nI z), .ref (a 40), .ref (a 41), .ref (a 42), .ref (a 43)]))]) rfl dX0_stepBack_7 (fun H locs G => ?_)
  refine lv_aload_n Z.1 Z.2.1 dX0_stepBack_10 rfl (lv_at hl 0 rfl) ?_
  refine zk_get (C := RX0) (T := TX0) (N := 6) (ci := 0) Z hK G hinX0 0 rfl rfl 0 (by decide) (List.mem_of_getElem? (i := 1) rfl) rfl (v := .int (nI (d - 1))) rfl dX0_stepBack_11 ?_
  exact zk_reti Z hR_ hlk hK hQ G () rfl rfl dX0_stepBack_14

abbrev rm_X0_stepOn : Room := { frames := 0, cells := 0, slots := 0, locals := 0 }
theorem dvX0_stepOn : zk_dv yX0_stepOn RX0 0 := by decide +kernel
set_option maxRecDepth 100000 in
set_option maxHeartbeats 4000000 in
theorem ct_X0_stepOn (l : Launch) (D : va_G) (g : Nat → ClassId) (τ : Nat → Nat) (a : Nat → Nat) (d : Nat) (z : Nat) (hd2 : d ≤ 40) : zk_MI l D g τ yX0_stepOn wsX0_stepOn rm_X0_stepOn [.ref (a 4)] [(a 4, .inr (0, [.int (nI d), .int (nI z), .ref (a 40), .ref (a 41), .ref (a 42), .ref (a 43)]))] (fun (r : Int32) (_ : Unit) => r = nI d) (fun (_ : Unit) => [(a 4, .inr (0, [.int (nI (d + 1)), .int (nI z), .ref (a 40), .ref (a 41), .ref (a 42), .ref (a 43)]))]) := by
  refine zk_of (Qc := fun A => va_Qi (fun (r : Int32) (_ : Unit) => r = nI d) (zk_B D g A (fun (_ : Unit) => [(a 4, .inr (0, [.int (nI (d + 1)), .int (nI z), .ref (a 40), .ref (a 41), .ref (a 42), .ref (a 43)]))])) A) (cc := cX0_stepOn) (maxL := 1) (ret := (some .int)) (own := RX0) (by decide) rfl rfl (Nat.le_of_ble_eq_true rfl) ?_
  intro pP eE sS mM args below meth cC aA ls qQ Z hR_ hlk hnm hK hT hA hQ G hl
  have hinX0 : ∀ w ∈ u_ws RX0 TX0 6, w ∈ wsX0_stepOn := (fun _ h => List.mem_cons_of_mem _ (List.mem_append_right _ h))
  refine lv_aload_n Z.1 Z.2.1 dX0_stepOn_0 rfl (lv_at hl 0 rfl) ?_
  refine lv_dup Z.1 Z.2.1 dX0_stepOn_1 rfl ?_
  refine zk_get (C := RX0) (T := TX0) (N := 6) (ci := 0) Z hK G hinX0 0 rfl rfl 0 (by decide) (List.mem_of_getElem? (i := 1) rfl) rfl (v := .int (nI d)) rfl dX0_stepOn_2 ?_
  refine lv_iconst (v := nI 1) Z.1 Z.2.1 dX0_stepOn_5 (by decide +kernel) ?_
  refine zk_iadd Z dX0_stepOn_6 (z := nI (d + 1)) (nI_add _ _) ?_
  refine zk_put tyX0 tyX0_ok nmX0 (C := RX0) (T := TX0) (N := 6) (ci := 0) Z hK G hinX0 0 rfl rfl 0 (by decide) (List.mem_of_getElem? (i := 1) rfl) rfl rfl rfl rfl (Nat.le_of_ble_eq_true rfl) (ws' := [(a 4, .inr (0, [.int (nI (d + 1)), .int (nI z), .ref (a 40), .ref (a 41), .ref (a 42), .ref (a 43)]))]) rfl dX0_stepOn_7 (fun H locs G => ?_)
  refine lv_aload_n Z.1 Z.2.1 dX0_stepOn_10 rfl (lv_at hl 0 rfl) ?_
  refine zk_get (C := RX0) (T := TX0) (N := 6) (ci := 0) Z hK G hinX0 0 rfl rfl 0 (by decide) (List.mem_of_getElem? (i := 1) rfl) rfl (v := .int (nI (d + 1))) rfl dX0_stepOn_11 ?_
  refine lv_iconst (v := nI 1) Z.1 Z.2.1 dX0_stepOn_14 (by decide +kernel) ?_
  refine zk_isub Z dX0_stepOn_15 (z := nI ((d + 1) - 1)) (pk_sub (by omega)) ?_
  exact zk_reti Z hR_ hlk hK hQ G () rfl rfl dX0_stepOn_16

abbrev rm_X1_add : Room := { frames := 0, cells := 0, slots := 0, locals := 0 }
theorem dvX1_add : zk_dv yX1_add RX1 2 := by decide +kernel
set_option maxRecDepth 100000 in
set_option maxHeartbeats 4000000 in
theorem ct_X1_add (l : Launch) (D : va_G) (g : Nat → ClassId) (τ : Nat → Nat) (uo : Nat) (us : Nat) (ut : Nat) (uh : Nat) (ua : Nat) (ul : Nat) (nw : Nat) (m1 : Nat) (Sn : Nat → Nat) (Tg : Nat → Nat) (Hd : Nat → Int32) (Av : Nat → Int32) (f : Nat) (t : Nat) (hm : m1 < 10) : zk_MI l D g τ yX1_add wsX1_add rm_X1_add [.ref uo, .int (nI f), .int (nI t)] [(uo, .inr (1, [.int (nI nw), .int (nI m1), .ref us, .ref ut, .ref uh, .ref ua, .ref ul])), (us, .inl (g 0, 10, .inl (fun i => nI (Sn i)))), (ut, .inl (g 0, 10, .inl (fun i => nI (Tg i)))), (uh, .inl (g 0, 10, .inl Hd)), (ua, .inl (g 0, 10, .inl Av))] (fun (r : Int32) (_ : Unit) => r = nI m1) (fun (_ : Unit) => [(uo, .inr (1, [.int (nI nw), .int (nI (m1 + 1)), .ref us, .ref ut, .ref uh, .ref ua, .ref ul])), (us, .inl (g 0, 10, .inl (fun i => nI (zs_up Sn m1 f i)))), (ut, .inl (g 0, 10, .inl (fun i => nI (zs_up Tg m1 t i)))), (uh, .inl (g 0, 10, .inl (upd Hd m1 (nI f)))), (ua, .inl (g 0, 10, .inl (upd Av m1 (-2))))]) := by
  refine zk_of (Qc := fun A => va_Qi (fun (r : Int32) (_ : Unit) => r = nI m1) (zk_B D g A (fun (_ : Unit) => [(uo, .inr (1, [.int (nI nw), .int (nI (m1 + 1)), .ref us, .ref ut, .ref uh, .ref ua, .ref ul])), (us, .inl (g 0, 10, .inl (fun i => nI (zs_up Sn m1 f i)))), (ut, .inl (g 0, 10, .inl (fun i => nI (zs_up Tg m1 t i)))), (uh, .inl (g 0, 10, .inl (upd Hd m1 (nI f)))), (ua, .inl (g 0, 10, .inl (upd Av m1 (-2))))])) A) (cc := cX1_add) (maxL := 3) (ret := (some .int)) (own := RX1) (by decide) rfl rfl (Nat.le_of_ble_eq_true rfl) ?_
  intro pP eE sS mM args below meth cC aA ls qQ Z hR_ hlk hnm hK hT hA hQ G hl
  have hinX1 : ∀ w ∈ u_ws RX1 TX1 7, w ∈ wsX1_add := (fun _ h => List.mem_cons_of_mem _ (List.mem_append_right _ h))
  refine lv_aload_n Z.1 Z.2.1 dX1_add_0 rfl (lv_at hl 0 rfl) ?_
  refine zk_get (C := RX1) (T := TX1) (N := 7) (ci := 1) Z hK G hinX1 0 rfl rfl 2 (by decide) (List.mem_of_getElem? (i := 1) rfl) rfl (v := .ref us) rfl dX1_add_1 ?_
  refine lv_aload_n Z.1 Z.2.1 dX1_add_4 rfl (lv_at hl 0 rfl) ?_
  refine zk_get (C := RX1) (T := TX1) (N := 7) (ci := 1) Z hK G hinX1 0 rfl rfl 1 (by decide) (List.mem_of_getElem? (i := 2) rfl) rfl (v := .int (nI m1)) rfl dX1_add_5 ?_
  refine lv_iload_n Z.1 Z.2.1 dX1_add_8 rfl (lv_at hl 1 rfl) ?_
  refine zk_iast Z hK G 1 rfl (k := m1) (by omega) (by decide) (zs_up_n _ _ _) (ws' := [(uo, .inr (1, [.int (nI nw), .int (nI m1), .ref us, .ref ut, .ref uh, .ref ua, .ref ul])), (us, .inl (g 0, 10, .inl (fun i => nI (zs_up Sn m1 f i)))), (ut, .inl (g 0, 10, .inl (fun i => nI (Tg i)))), (uh, .inl (g 0, 10, .inl Hd)), (ua, .inl (g 0, 10, .inl Av))]) rfl dX1_add_9 (fun H locs G => ?_)
  refine lv_aload_n Z.1 Z.2.1 dX1_add_10 rfl (lv_at hl 0 rfl) ?_
  refine zk_get (C := RX1) (T := TX1) (N := 7) (ci := 1) Z hK G hinX1 0 rfl rfl 3 (by decide) (List.mem_of_getElem? (i := 3) rfl) rfl (v := .ref ut) rfl dX1_add_11 ?_
  refine lv_aload_n Z.1 Z.2.1 dX1_add_14 rfl (lv_at hl 0 rfl) ?_
  refine zk_get (C := RX1) (T := TX1) (N := 7) (ci := 1) Z hK G hinX1 0 rfl rfl 1 (by decide) (List.mem_of_getElem? (i := 2) rfl) rfl (v := .int (nI m1)) rfl dX1_add_15 ?_
  refine lv_iload_n Z.1 Z.2.1 dX1_add_18 rfl (lv_at hl 2 rfl) ?_
  refine zk_iast Z hK G 2 rfl (k := m1) (by omega) (by decide) (zs_up_n _ _ _) (ws' := [(uo, .inr (1, [.int (nI nw), .int (nI m1), .ref us, .ref ut, .ref uh, .ref ua, .ref ul])), (us, .inl (g 0, 10, .inl (fun i => nI (zs_up Sn m1 f i)))), (ut, .inl (g 0, 10, .inl (fun i => nI (zs_up Tg m1 t i)))), (uh, .inl (g 0, 10, .inl Hd)), (ua, .inl (g 0, 10, .inl Av))]) rfl dX1_add_19 (fun H locs G => ?_)
  refine lv_aload_n Z.1 Z.2.1 dX1_add_20 rfl (lv_at hl 0 rfl) ?_
  refine zk_get (C := RX1) (T := TX1) (N := 7) (ci := 1) Z hK G hinX1 0 rfl rfl 4 (by decide) (List.mem_of_getElem? (i := 4) rfl) rfl (v := .ref uh) rfl dX1_add_21 ?_
  refine lv_aload_n Z.1 Z.2.1 dX1_add_24 rfl (lv_at hl 0 rfl) ?_
  refine zk_get (C := RX1) (T := TX1) (N := 7) (ci := 1) Z hK G hinX1 0 rfl rfl 1 (by decide) (List.mem_of_getElem? (i := 2) rfl) rfl (v := .int (nI m1)) rfl dX1_add_25 ?_
  refine lv_iload_n Z.1 Z.2.1 dX1_add_28 rfl (lv_at hl 1 rfl) ?_
  refine zk_iast Z hK G 3 rfl (k := m1) (by omega) (by decide) rfl (ws' := [(uo, .inr (1, [.int (nI nw), .int (nI m1), .ref us, .ref ut, .ref uh, .ref ua, .ref ul])), (us, .inl (g 0, 10, .inl (fun i => nI (zs_up Sn m1 f i)))), (ut, .inl (g 0, 10, .inl (fun i => nI (zs_up Tg m1 t i)))), (uh, .inl (g 0, 10, .inl (upd Hd m1 (nI f)))), (ua, .inl (g 0, 10, .inl Av))]) rfl dX1_add_29 (fun H locs G => ?_)
  refine lv_aload_n Z.1 Z.2.1 dX1_add_30 rfl (lv_at hl 0 rfl) ?_
  refine zk_get (C := RX1) (T := TX1) (N := 7) (ci := 1) Z hK G hinX1 0 rfl rfl 5 (by decide) (List.mem_of_getElem? (i := 5) rfl) rfl (v := .ref ua) rfl dX1_add_31 ?_
  refine lv_aload_n Z.1 Z.2.1 dX1_add_34 rfl (lv_at hl 0 rfl) ?_
  refine zk_get (C := RX1) (T := TX1) (N := 7) (ci := 1) Z hK G hinX1 0 rfl rfl 1 (by decide) (List.mem_of_getElem? (i := 2) rfl) rfl (v := .int (nI m1)) rfl dX1_add_35 ?_
  refine lv_bipush (v := (-2)) Z.1 Z.2.1 dX1_add_38 (by decide +kernel) ?_
  refine zk_iast Z hK G 4 rfl (k := m1) (by omega) (by decide) rfl (ws' := [(uo, .inr (1, [.int (nI nw), .int (nI m1), .ref us, .ref ut, .ref uh, .ref ua, .ref ul])), (us, .inl (g 0, 10, .inl (fun i => nI (zs_up Sn m1 f i)))), (ut, .inl (g 0, 10, .inl (fun i => nI (zs_up Tg m1 t i)))), (uh, .inl (g 0, 10, .inl (upd Hd m1 (nI f)))), (ua, .inl (g 0, 10, .inl (upd Av m1 (-2))))]) rfl dX1_add_40 (fun H locs G => ?_)
  refine lv_aload_n Z.1 Z.2.1 dX1_add_41 rfl (lv_at hl 0 rfl) ?_
  refine lv_dup Z.1 Z.2.1 dX1_add_42 rfl ?_
  refine zk_get (C := RX1) (T := TX1) (N := 7) (ci := 1) Z hK G hinX1 0 rfl rfl 1 (by decide) (List.mem_of_getElem? (i := 2) rfl) rfl (v := .int (nI m1)) rfl dX1_add_43 ?_
  refine lv_iconst (v := nI 1) Z.1 Z.2.1 dX1_add_46 (by decide +kernel) ?_
  refine zk_iadd Z dX1_add_47 (z := nI (m1 + 1)) (nI_add _ _) ?_
  refine zk_put tyX1 tyX1_ok nmX1 (C := RX1) (T := TX1) (N := 7) (ci := 1) Z hK G hinX1 0 rfl rfl 1 (by decide) (List.mem_of_getElem? (i := 2) rfl) rfl rfl rfl rfl (Nat.le_of_ble_eq_true rfl) (ws' := [(uo, .inr (1, [.int (nI nw), .int (nI (m1 + 1)), .ref us, .ref ut, .ref uh, .ref ua, .ref ul])), (us, .inl (g 0, 10, .inl (fun i => nI (zs_up Sn m1 f i)))), (ut, .inl (g 0, 10, .inl (fun i => nI (zs_up Tg m1 t i)))), (uh, .inl (g 0, 10, .inl (upd Hd m1 (nI f)))), (ua, .inl (g 0, 10, .inl (upd Av m1 (-2))))]) rfl dX1_add_48 (fun H locs G => ?_)
  refine lv_aload_n Z.1 Z.2.1 dX1_add_51 rfl (lv_at hl 0 rfl) ?_
  refine zk_get (C := RX1) (T := TX1) (N := 7) (ci := 1) Z hK G hinX1 0 rfl rfl 1 (by decide) (List.mem_of_getElem? (i := 2) rfl) rfl (v := .int (nI (m1 + 1))) rfl dX1_add_52 ?_
  refine lv_iconst (v := nI 1) Z.1 Z.2.1 dX1_add_55 (by decide +kernel) ?_
  refine zk_isub Z dX1_add_56 (z := nI ((m1 + 1) - 1)) (pk_sub (by omega)) ?_
  exact zk_reti Z hR_ hlk hK hQ G () rfl rfl dX1_add_57

abbrev rm_X1_handOn : Room := { frames := 0, cells := 0, slots := 0, locals := 0 }
theorem dvX1_handOn : zk_dv yX1_handOn RX1 3 := by decide +kernel
set_option maxRecDepth 100000 in
set_option maxHeartbeats 4000000 in
theorem ct_X1_handOn (l : Launch) (D : va_G) (g : Nat → ClassId) (τ : Nat → Nat) (uo : Nat) (us : Nat) (ut : Nat) (uh : Nat) (ua : Nat) (ul : Nat) (nw : Nat) (m1 : Nat) (Tg : Nat → Nat) (Hd : Nat → Int32) (Av : Nat → Int32) (Ld : Nat → Nat) (mi : Nat) (to : Nat) (lost : Bool) (h : Nat) (hm : mi < 10) (hh : Hd mi = nI h) (hh2 : h < 6) (ht : to < 2 ^ 31) (hg : Tg mi < 2 ^ 31) : zk_MV l D g τ yX1_handOn wsX1_handOn rm_X1_handOn [.ref uo, .int (nI mi), .int (nI to), .int (zk_b lost)] [(uo, .inr (1, [.int (nI nw), .int (nI m1), .ref us, .ref ut, .ref uh, .ref ua, .ref ul])), (ut, .inl (g 0, 10, .inl (fun i => nI (Tg i)))), (uh, .inl (g 0, 10, .inl Hd)), (ua, .inl (g 0, 10, .inl Av)), (ul, .inl (g 0, 6, .inl (fun i => nI (Ld i))))] (fun (_ : Unit) => True) (fun (_ : Unit) => [(uo, .inr (1, [.int (nI nw), .int (nI m1), .ref us, .ref ut, .ref uh, .ref ua, .ref ul])), (ut, .inl (g 0, 10, .inl (fun i => nI (Tg i)))), (uh, .inl (g 0, 10, .inl (upd Hd mi (zd_h lost to)))), (ua, .inl (g 0, 10, .inl (zd_a lost to (Tg mi) mi nw Av))), (ul, .inl (g 0, 6, .inl (fun i => nI (zs_up Ld h (Ld h + 1) i))))]) := by
  refine zk_of (Qc := fun A => va_Qv (fun (_ : Unit) => True) (zk_B D g A (fun (_ : Unit) => [(uo, .inr (1, [.int (nI nw), .int (nI m1), .ref us, .ref ut, .ref uh, .ref ua, .ref ul])), (ut, .inl (g 0, 10, .inl (fun i => nI (Tg i)))), (uh, .inl (g 0, 10, .inl (upd Hd mi (zd_h lost to)))), (ua, .inl (g 0, 10, .inl (zd_a lost to (Tg mi) mi nw Av))), (ul, .inl (g 0, 6, .inl (fun i => nI (zs_up Ld h (Ld h + 1) i))))])) A) (cc := cX1_handOn) (maxL := 4) (ret := none) (own := RX1) (by decide) rfl rfl (Nat.le_of_ble_eq_true rfl) ?_
  intro pP eE sS mM args below meth cC aA ls qQ Z hR_ hlk hnm hK hT hA hQ G hl
  have hinX1 : ∀ w ∈ u_ws RX1 TX1 7, w ∈ wsX1_handOn := (fun _ h => List.mem_cons_of_mem _ (List.mem_append_right _ h))
  refine lv_aload_n Z.1 Z.2.1 dX1_handOn_0 rfl (lv_at hl 0 rfl) ?_
  refine zk_get (C := RX1) (T := TX1) (N := 7) (ci := 1) Z hK G hinX1 0 rfl rfl 6 (by decide) (List.mem_of_getElem? (i := 1) rfl) rfl (v := .ref ul) rfl dX1_handOn_1 ?_
  refine lv_aload_n Z.1 Z.2.1 dX1_handOn_4 rfl (lv_at hl 0 rfl) ?_
  refine zk_get (C := RX1) (T := TX1) (N := 7) (ci := 1) Z hK G hinX1 0 rfl rfl 4 (by decide) (List.mem_of_getElem? (i := 2) rfl) rfl (v := .ref uh) rfl dX1_handOn_5 ?_
  refine lv_iload_n Z.1 Z.2.1 dX1_handOn_8 rfl (lv_at hl 1 rfl) ?_
  refine zk_iald Z hK G 2 rfl (k := mi) (by omega) (by decide) (v := nI h) hh dX1_handOn_9 ?_
  refine lv_dup2_11 Z.1 Z.2.1 dX1_handOn_10 rfl rfl ?_
  refine zk_iald Z hK G 4 rfl (k := h) (by omega) (by decide) (v := nI (Ld h)) rfl dX1_handOn_11 ?_
  refine lv_iconst (v := nI 1) Z.1 Z.2.1 dX1_handOn_12 (by decide +kernel) ?_
  refine zk_iadd Z dX1_handOn_13 (z := nI (Ld h + 1)) (nI_add _ _) ?_
  refine zk_iast Z hK G 4 rfl (k := h) (by omega) (by decide) (zs_up_n _ _ _) (ws' := [(uo, .inr (1, [.int (nI nw), .int (nI m1), .ref us, .ref ut, .ref uh, .ref ua, .ref ul])), (ut, .inl (g 0, 10, .inl (fun i => nI (Tg i)))), (uh, .inl (g 0, 10, .inl Hd)), (ua, .inl (g 0, 10, .inl Av)), (ul, .inl (g 0, 6, .inl (fun i => nI (zs_up Ld h (Ld h + 1) i))))]) rfl dX1_handOn_14 (fun H locs G => ?_)
  refine lv_aload_n Z.1 Z.2.1 dX1_handOn_15 rfl (lv_at hl 0 rfl) ?_
  refine zk_get (C := RX1) (T := TX1) (N := 7) (ci := 1) Z hK G hinX1 0 rfl rfl 4 (by decide) (List.mem_of_getElem? (i := 2) rfl) rfl (v := .ref uh) rfl dX1_handOn_16 ?_
  refine lv_iload_n Z.1 Z.2.1 dX1_handOn_19 rfl (lv_at hl 1 rfl) ?_
  refine lv_iload_n Z.1 Z.2.1 dX1_handOn_20 rfl (lv_at hl 3 rfl) ?_
  refine lv_if_eq (tgt := 29) Z.1 Z.2.1 dX1_handOn_21 (by decide) (fun c21 => ?_) (fun c21 => ?_)
  · have c21 : lost = false := zk_b0.mp c21
    refine lv_iload_n Z.1 Z.2.1 dX1_handOn_29 rfl (lv_at hl 2 rfl) ?_
    refine zk_iast Z hK G 2 rfl (k := mi) (by omega) (by decide) rfl (ws' := [(uo, .inr (1, [.int (nI nw), .int (nI m1), .ref us, .ref ut, .ref uh, .ref ua, .ref ul])), (ut, .inl (g 0, 10, .inl (fun i => nI (Tg i)))), (uh, .inl (g 0, 10, .inl (upd Hd mi (nI to)))), (ua, .inl (g 0, 10, .inl Av)), (ul, .inl (g 0, 6, .inl (fun i => nI (zs_up Ld h (Ld h + 1) i))))]) rfl dX1_handOn_30 (fun H locs G => ?_)
    refine lv_aload_n Z.1 Z.2.1 dX1_handOn_31 rfl (lv_at hl 0 rfl) ?_
    refine zk_get (C := RX1) (T := TX1) (N := 7) (ci := 1) Z hK G hinX1 0 rfl rfl 4 (by decide) (List.mem_of_getElem? (i := 2) rfl) rfl (v := .ref uh) rfl dX1_handOn_32 ?_
    refine lv_iload_n Z.1 Z.2.1 dX1_handOn_35 rfl (lv_at hl 1 rfl) ?_
    refine zk_iald Z hK G 2 rfl (k := mi) (by omega) (by decide) (v := nI to) pk_us dX1_handOn_36 ?_
    refine lv_aload_n Z.1 Z.2.1 dX1_handOn_37 rfl (lv_at hl 0 rfl) ?_
    refine zk_get (C := RX1) (T := TX1) (N := 7) (ci := 1) Z hK G hinX1 0 rfl rfl 3 (by decide) (List.mem_of_getElem? (i := 3) rfl) rfl (v := .ref ut) rfl dX1_handOn_38 ?_
    refine lv_iload_n Z.1 Z.2.1 dX1_handOn_41 rfl (lv_at hl 1 rfl) ?_
    refine zk_iald Z hK G 1 rfl (k := mi) (by omega) (by decide) (v := nI (Tg mi)) rfl dX1_handOn_42 ?_
    refine lv_icmp_ne (tgt := 58) Z.1 Z.2.1 dX1_handOn_43 (by decide) (fun c43 => ?_) (fun c43 => ?_)
    · have c43 : to ≠ Tg mi := zk_neq (by omega) (by omega) c43
      exact zk_retv Z hR_ hlk hK hQ G () trivial (by simp [zd_h, zd_a, c21, c43]) dX1_handOn_58
    have c43 : to = Tg mi := zk_eq (by omega) (by omega) c43
    refine lv_aload_n Z.1 Z.2.1 dX1_handOn_46 rfl (lv_at hl 0 rfl) ?_
    refine zk_get (C := RX1) (T := TX1) (N := 7) (ci := 1) Z hK G hinX1 0 rfl rfl 5 (by decide) (List.mem_of_getElem? (i := 4) rfl) rfl (v := .ref ua) rfl dX1_handOn_47 ?_
    refine lv_iload_n Z.1 Z.2.1 dX1_handOn_50 rfl (lv_at hl 1 rfl) ?_
    refine lv_aload_n Z.1 Z.2.1 dX1_handOn_51 rfl (lv_at hl 0 rfl) ?_
    refine zk_get (C := RX1) (T := TX1) (N := 7) (ci := 1) Z hK G hinX1 0 rfl rfl 0 (by decide) (List.mem_of_getElem? (i := 5) rfl) rfl (v := .int (nI nw)) rfl dX1_handOn_52 ?_
    refine lv_iconst (v := nI 1) Z.1 Z.2.1 dX1_handOn_55 (by decide +kernel) ?_
    refine zk_iadd Z dX1_handOn_56 (z := nI (nw + 1)) (nI_add _ _) ?_
    refine zk_iast Z hK G 3 rfl (k := mi) (by omega) (by decide) rfl (ws' := [(uo, .inr (1, [.int (nI nw), .int (nI m1), .ref us, .ref ut, .ref uh, .ref ua, .ref ul])), (ut, .inl (g 0, 10, .inl (fun i => nI (Tg i)))), (uh, .inl (g 0, 10, .inl (upd Hd mi (nI to)))), (ua, .inl (g 0, 10, .inl (upd Av mi (nI (nw + 1))))), (ul, .inl (g 0, 6, .inl (fun i => nI (zs_up Ld h (Ld h + 1) i))))]) rfl dX1_handOn_57 (fun H locs G => ?_)
    exact zk_retv Z hR_ hlk hK hQ G () trivial (by simp [zd_h, zd_a, c21, c43]) dX1_handOn_58
  have c21 : lost = true := zk_b1.mp c21
  refine lv_bipush (v := (-2)) Z.1 Z.2.1 dX1_handOn_24 (by decide +kernel) ?_
  refine lv_goto (tgt := 30) Z.1 Z.2.1 dX1_handOn_26 (by decide) ?_
  refine zk_iast Z hK G 2 rfl (k := mi) (by omega) (by decide) rfl (ws' := [(uo, .inr (1, [.int (nI nw), .int (nI m1), .ref us, .ref ut, .ref uh, .ref ua, .ref ul])), (ut, .inl (g 0, 10, .inl (fun i => nI (Tg i)))), (uh, .inl (g 0, 10, .inl (upd Hd mi (-2)))), (ua, .inl (g 0, 10, .inl Av)), (ul, .inl (g 0, 6, .inl (fun i => nI (zs_up Ld h (Ld h + 1) i))))]) rfl dX1_handOn_30 (fun H locs G => ?_)
  refine lv_aload_n Z.1 Z.2.1 dX1_handOn_31 rfl (lv_at hl 0 rfl) ?_
  refine zk_get (C := RX1) (T := TX1) (N := 7) (ci := 1) Z hK G hinX1 0 rfl rfl 4 (by decide) (List.mem_of_getElem? (i := 2) rfl) rfl (v := .ref uh) rfl dX1_handOn_32 ?_
  refine lv_iload_n Z.1 Z.2.1 dX1_handOn_35 rfl (lv_at hl 1 rfl) ?_
  refine zk_iald Z hK G 2 rfl (k := mi) (by omega) (by decide) (v := (-2)) pk_us dX1_handOn_36 ?_
  refine lv_aload_n Z.1 Z.2.1 dX1_handOn_37 rfl (lv_at hl 0 rfl) ?_
  refine zk_get (C := RX1) (T := TX1) (N := 7) (ci := 1) Z hK G hinX1 0 rfl rfl 3 (by decide) (List.mem_of_getElem? (i := 3) rfl) rfl (v := .ref ut) rfl dX1_handOn_38 ?_
  refine lv_iload_n Z.1 Z.2.1 dX1_handOn_41 rfl (lv_at hl 1 rfl) ?_
  refine zk_iald Z hK G 1 rfl (k := mi) (by omega) (by decide) (v := nI (Tg mi)) rfl dX1_handOn_42 ?_
  refine lv_icmp_ne (tgt := 58) Z.1 Z.2.1 dX1_handOn_43 (by decide) (fun c43 => ?_) (fun c43 => ?_)
  · have c43 : ¬ (-2) = nI (Tg mi) := c43
    exact zk_retv Z hR_ hlk hK hQ G () trivial (by simp [zd_h, zd_a, c21, c43]) dX1_handOn_58
  exfalso
  have c43 : (-2) = nI (Tg mi) := c43
  exact zs_m2 hg c43

abbrev rm_X1_arrived : Room := { frames := 0, cells := 0, slots := 0, locals := 0 }
theorem dvX1_arrived : zk_dv yX1_arrived RX1 0 := by decide +kernel
set_option maxRecDepth 100000 in
set_option maxHeartbeats 4000000 in
theorem ct_X1_arrived (l : Launch) (D : va_G) (g : Nat → ClassId) (τ : Nat → Nat) (uo : Nat) (us : Nat) (ut : Nat) (uh : Nat) (ua : Nat) (ul : Nat) (nw : Nat) (m1 : Nat) (Av : Nat → Int32) (hm : m1 ≤ 10) : zk_MI l D g τ yX1_arrived wsX1_arrived rm_X1_arrived [.ref uo] [(uo, .inr (1, [.int (nI nw), .int (nI m1), .ref us, .ref ut, .ref uh, .ref ua, .ref ul])), (ua, .inl (g 0, 10, .inl Av))] (fun (r : Int32) (_ : Unit) => r = nI (zd_cnt Av m1)) (fun (_ : Unit) => [(uo, .inr (1, [.int (nI nw), .int (nI m1), .ref us, .ref ut, .ref uh, .ref ua, .ref ul])), (ua, .inl (g 0, 10, .inl Av))]) := by
  refine zk_of (Qc := fun A => va_Qi (fun (r : Int32) (_ : Unit) => r = nI (zd_cnt Av m1)) (zk_B D g A (fun (_ : Unit) => [(uo, .inr (1, [.int (nI nw), .int (nI m1), .ref us, .ref ut, .ref uh, .ref ua, .ref ul])), (ua, .inl (g 0, 10, .inl Av))])) A) (cc := cX1_arrived) (maxL := 3) (ret := (some .int)) (own := RX1) (by decide) rfl rfl (Nat.le_of_ble_eq_true rfl) ?_
  intro pP eE sS mM args below meth cC aA ls qQ Z hR_ hlk hnm hK hT hA hQ G hl
  have hinX1 : ∀ w ∈ u_ws RX1 TX1 7, w ∈ wsX1_arrived := (fun _ h => List.mem_cons_of_mem _ (List.mem_append_right _ h))
  refine lv_iconst (v := nI 0) Z.1 Z.2.1 dX1_arrived_0 (by decide +kernel) ?_
  refine lv_istore_n (lv' := [(1, .int (nI 0)), (0, .ref uo)]) Z.1 Z.2.1 dX1_arrived_1 rfl hl (by decide) rfl (fun ls hl => ?_)
  refine lv_iconst (v := nI 0) Z.1 Z.2.1 dX1_arrived_2 (by decide +kernel) ?_
  refine lv_istore_n (lv' := [(2, .int (nI 0)), (1, .int (nI 0)), (0, .ref uo)]) Z.1 Z.2.1 dX1_arrived_3 rfl hl (by decide) rfl (fun ls hl => ?_)
  have L4 : ∀ (nN : Nat) (k : Nat) (z : Nat), m1 - k < nN → (k ≤ m1) → (z = zd_cnt Av k) → ∀ (H : Heap) (locs : List Loc) (ls : Array Slot), zk_G D aA [(uo, .inr (1, [.int (nI nw), .int (nI m1), .ref us, .ref ut, .ref uh, .ref ua, .ref ul])), (ua, .inl (g 0, 10, .inl Av))] sS H locs → lv_has ls 3 [(0, .ref uo), (1, .int (nI z)), (2, .int (nI k))] → W pP l eE rm_X1_arrived sS mM args below meth cC H locs 0 0 qQ (F0 mM 4 ls []) := by
    intro nN
    induction nN with
    | zero => intros; omega
    | succ nN ih4 =>
      intro k z hμ h1 h2 H locs ls G hl
      refine lv_iload_n Z.1 Z.2.1 dX1_arrived_4 rfl (lv_at hl 2 rfl) ?_
      refine lv_aload_n Z.1 Z.2.1 dX1_arrived_5 rfl (lv_at hl 0 rfl) ?_
      refine zk_get (C := RX1) (T := TX1) (N := 7) (ci := 1) Z hK G hinX1 0 rfl rfl 1 (by decide) (List.mem_of_getElem? (i := 1) rfl) rfl (v := .int (nI m1)) rfl dX1_arrived_6 ?_
      refine lv_icmp_ge (tgt := 32) Z.1 Z.2.1 dX1_arrived_9 (by decide) (fun c9 => ?_) (fun c9 => ?_)
      · have c9 : m1 ≤ k := zk_le (by omega) (by omega) c9
        refine lv_iload_n Z.1 Z.2.1 dX1_arrived_32 rfl (lv_at hl 1 rfl) ?_
        exact zk_reti Z hR_ hlk hK hQ G () (by rw [h2, show k = m1 by omega]) rfl dX1_arrived_33
      have c9 : k < m1 := zk_nle (by omega) (by omega) c9
      refine lv_aload_n Z.1 Z.2.1 dX1_arrived_12 rfl (lv_at hl 0 rfl) ?_
      refine zk_get (C := RX1) (T := TX1) (N := 7) (ci := 1) Z hK G hinX1 0 rfl rfl 5 (by decide) (List.mem_of_getElem? (i := 2) rfl) rfl (v := .ref ua) rfl dX1_arrived_13 ?_
      refine lv_iload_n Z.1 Z.2.1 dX1_arrived_16 rfl (lv_at hl 2 rfl) ?_
      refine zk_iald Z hK G 1 rfl (k := k) (by omega) (by decide) (v := Av k) rfl dX1_arrived_17 ?_
      refine lv_bipush (v := (-2)) Z.1 Z.2.1 dX1_arrived_18 (by decide +kernel) ?_
      refine lv_icmp_eq (tgt := 26) Z.1 Z.2.1 dX1_arrived_20 (by decide) (fun c20 => ?_) (fun c20 => ?_)
      · have c20 : Av k = (-2) := c20
        refine lv_iinc (v := nI (k + 1)) (lv' := [(2, .int (nI (k + 1))), (0, .ref uo), (1, .int (nI z))]) Z.1 Z.2.1 dX1_arrived_26 hl (k := 2) rfl (zk_inc k 1) (by decide) rfl (fun ls hl => ?_)
        refine lv_goto (tgt := 4) Z.1 Z.2.1 dX1_arrived_29 (by decide) ?_
        exact ih4 (k + 1) z (by omega) (by omega) (by simp only [zd_cnt]; simp [c20, h2]) _ _ _ G (lv_sub hl [1, 2, 0] rfl)
      have c20 : ¬ Av k = (-2) := c20
      refine lv_iinc (v := nI (z + 1)) (lv' := [(1, .int (nI (z + 1))), (0, .ref uo), (2, .int (nI k))]) Z.1 Z.2.1 dX1_arrived_23 hl (k := 1) rfl (zk_inc z 1) (by decide) rfl (fun ls hl => ?_)
      refine lv_iinc (v := nI (k + 1)) (lv' := [(2, .int (nI (k + 1))), (1, .int (nI (z + 1))), (0, .ref uo)]) Z.1 Z.2.1 dX1_arrived_26 hl (k := 2) rfl (zk_inc k 1) (by decide) rfl (fun ls hl => ?_)
      refine lv_goto (tgt := 4) Z.1 Z.2.1 dX1_arrived_29 (by decide) ?_
      exact ih4 (k + 1) (z + 1) (by omega) (by omega) (by simp only [zd_cnt]; simp [c20, h2]) _ _ _ G (lv_sub hl [2, 1, 0] rfl)
  exact L4 _ 0 0 (Nat.lt_succ_self _) (by omega) (by rfl) _ _ _ G (lv_sub hl [2, 1, 0] rfl)

abbrev rm_X1_ofMessage : Room := { frames := 0, cells := 0, slots := 0, locals := 0 }
theorem dvX1_ofMessage : zk_dv yX1_ofMessage RX1 2 := by decide +kernel
set_option maxRecDepth 100000 in
set_option maxHeartbeats 4000000 in
theorem ct_X1_ofMessage (l : Launch) (D : va_G) (g : Nat → ClassId) (τ : Nat → Nat) (uo : Nat) (us : Nat) (ut : Nat) (uh : Nat) (ua : Nat) (ul : Nat) (nw : Nat) (m1 : Nat) (Sn : Nat → Nat) (Tg : Nat → Nat) (Hd : Nat → Int32) (Av : Nat → Int32) (mi : Nat) (what : Int32) (hm : mi < 10) : zk_MI l D g τ yX1_ofMessage wsX1_ofMessage rm_X1_ofMessage [.ref uo, .int (nI mi), .int what] [(uo, .inr (1, [.int (nI nw), .int (nI m1), .ref us, .ref ut, .ref uh, .ref ua, .ref ul])), (us, .inl (g 0, 10, .inl (fun i => nI (Sn i)))), (ut, .inl (g 0, 10, .inl (fun i => nI (Tg i)))), (uh, .inl (g 0, 10, .inl Hd)), (ua, .inl (g 0, 10, .inl Av))] (fun (r : Int32) (_ : Unit) => r = zd_of Sn Tg Hd Av mi what) (fun (_ : Unit) => [(uo, .inr (1, [.int (nI nw), .int (nI m1), .ref us, .ref ut, .ref uh, .ref ua, .ref ul])), (us, .inl (g 0, 10, .inl (fun i => nI (Sn i)))), (ut, .inl (g 0, 10, .inl (fun i => nI (Tg i)))), (uh, .inl (g 0, 10, .inl Hd)), (ua, .inl (g 0, 10, .inl Av))]) := by
  refine zk_of (Qc := fun A => va_Qi (fun (r : Int32) (_ : Unit) => r = zd_of Sn Tg Hd Av mi what) (zk_B D g A (fun (_ : Unit) => [(uo, .inr (1, [.int (nI nw), .int (nI m1), .ref us, .ref ut, .ref uh, .ref ua, .ref ul])), (us, .inl (g 0, 10, .inl (fun i => nI (Sn i)))), (ut, .inl (g 0, 10, .inl (fun i => nI (Tg i)))), (uh, .inl (g 0, 10, .inl Hd)), (ua, .inl (g 0, 10, .inl Av))])) A) (cc := cX1_ofMessage) (maxL := 3) (ret := (some .int)) (own := RX1) (by decide) rfl rfl (Nat.le_of_ble_eq_true rfl) ?_
  intro pP eE sS mM args below meth cC aA ls qQ Z hR_ hlk hnm hK hT hA hQ G hl
  have hinX1 : ∀ w ∈ u_ws RX1 TX1 7, w ∈ wsX1_ofMessage := (fun _ h => List.mem_cons_of_mem _ (List.mem_append_right _ h))
  refine lv_iload_n Z.1 Z.2.1 dX1_ofMessage_0 rfl (lv_at hl 2 rfl) ?_
  by_cases c1_0 : what = nI 0
  · subst c1_0
    refine lv_tableIn (tgt := 32) Z.1 Z.2.1 dX1_ofMessage_1 (by decide) (by decide) (by rfl) (by decide) ?_
    refine lv_aload_n Z.1 Z.2.1 dX1_ofMessage_32 rfl (lv_at hl 0 rfl) ?_
    refine zk_get (C := RX1) (T := TX1) (N := 7) (ci := 1) Z hK G hinX1 0 rfl rfl 2 (by decide) (List.mem_of_getElem? (i := 1) rfl) rfl (v := .ref us) rfl dX1_ofMessage_33 ?_
    refine lv_iload_n Z.1 Z.2.1 dX1_ofMessage_36 rfl (lv_at hl 1 rfl) ?_
    refine zk_iald Z hK G 1 rfl (k := mi) (by omega) (by decide) (v := nI (Sn mi)) rfl dX1_ofMessage_37 ?_
    exact zk_reti Z hR_ hlk hK hQ G () (by simp only [zd_of]; rfl) rfl dX1_ofMessage_38
  by_cases c1_1 : what = nI 1
  · subst c1_1
    refine lv_tableIn (tgt := 39) Z.1 Z.2.1 dX1_ofMessage_1 (by decide) (by decide) (by rfl) (by decide) ?_
    refine lv_aload_n Z.1 Z.2.1 dX1_ofMessage_39 rfl (lv_at hl 0 rfl) ?_
    refine zk_get (C := RX1) (T := TX1) (N := 7) (ci := 1) Z hK G hinX1 0 rfl rfl 3 (by decide) (List.mem_of_getElem? (i := 2) rfl) rfl (v := .ref ut) rfl dX1_ofMessage_40 ?_
    refine lv_iload_n Z.1 Z.2.1 dX1_ofMessage_43 rfl (lv_at hl 1 rfl) ?_
    refine zk_iald Z hK G 2 rfl (k := mi) (by omega) (by decide) (v := nI (Tg mi)) rfl dX1_ofMessage_44 ?_
    exact zk_reti Z hR_ hlk hK hQ G () (by simp only [zd_of]; rfl) rfl dX1_ofMessage_45
  by_cases c1_2 : what = nI 2
  · subst c1_2
    refine lv_tableIn (tgt := 46) Z.1 Z.2.1 dX1_ofMessage_1 (by decide) (by decide) (by rfl) (by decide) ?_
    refine lv_aload_n Z.1 Z.2.1 dX1_ofMessage_46 rfl (lv_at hl 0 rfl) ?_
    refine zk_get (C := RX1) (T := TX1) (N := 7) (ci := 1) Z hK G hinX1 0 rfl rfl 4 (by decide) (List.mem_of_getElem? (i := 3) rfl) rfl (v := .ref uh) rfl dX1_ofMessage_47 ?_
    refine lv_iload_n Z.1 Z.2.1 dX1_ofMessage_50 rfl (lv_at hl 1 rfl) ?_
    refine zk_iald Z hK G 3 rfl (k := mi) (by omega) (by decide) (v := Hd mi) rfl dX1_ofMessage_51 ?_
    exact zk_reti Z hR_ hlk hK hQ G () (by simp only [zd_of]; rfl) rfl dX1_ofMessage_52
  by_cases c1_3 : what = nI 3
  · subst c1_3
    refine lv_tableIn (tgt := 53) Z.1 Z.2.1 dX1_ofMessage_1 (by decide) (by decide) (by rfl) (by decide) ?_
    refine lv_aload_n Z.1 Z.2.1 dX1_ofMessage_53 rfl (lv_at hl 0 rfl) ?_
    refine zk_get (C := RX1) (T := TX1) (N := 7) (ci := 1) Z hK G hinX1 0 rfl rfl 5 (by decide) (List.mem_of_getElem? (i := 4) rfl) rfl (v := .ref ua) rfl dX1_ofMessage_54 ?_
    refine lv_iload_n Z.1 Z.2.1 dX1_ofMessage_57 rfl (lv_at hl 1 rfl) ?_
    refine zk_iald Z hK G 4 rfl (k := mi) (by omega) (by decide) (v := Av mi) rfl dX1_ofMessage_58 ?_
    exact zk_reti Z hR_ hlk hK hQ G () (by simp only [zd_of]; rfl) rfl dX1_ofMessage_59
  have c1_0' : ¬ what.toInt = 0 := lv_neT c1_0 (by decide)
  have c1_1' : ¬ what.toInt = 1 := lv_neT c1_1 (by decide)
  have c1_2' : ¬ what.toInt = 2 := lv_neT c1_2 (by decide)
  have c1_3' : ¬ what.toInt = 3 := lv_neT c1_3 (by decide)
  refine lv_tableOut (tgt := 60) Z.1 Z.2.1 dX1_ofMessage_1 (by omega) (by decide) ?_
  refine lv_iconst (v := (-1)) Z.1 Z.2.1 dX1_ofMessage_60 (by decide +kernel) ?_
  exact zk_reti Z hR_ hlk hK hQ G () (by simp only [zd_of]; rw [if_neg c1_0, if_neg c1_1, if_neg c1_2, if_neg c1_3]) rfl dX1_ofMessage_61

abbrev rm_X1_copy : Room := { frames := 1, cells := 0, slots := 0, locals := 60 }
theorem dvX1_copy : zk_dv yX1_copy RX1 1 := by decide +kernel
set_option maxRecDepth 100000 in
set_option maxHeartbeats 4000000 in
theorem ct_X1_copy (l : Launch) (D : va_G) (g : Nat → ClassId) (τ : Nat → Nat) (uo : Nat) (us : Nat) (ut : Nat) (uh : Nat) (ua : Nat) (ul : Nat) (vo : Nat) (vs : Nat) (vt : Nat) (vh : Nat) (va : Nat) (vl : Nat) (nw : Nat) (m1 : Nat) (Sn : Nat → Nat) (Tg : Nat → Nat) (Hd : Nat → Int32) (Av : Nat → Int32) (Ld : Nat → Nat) (nw2 : Nat) (m2 : Nat) (Sn2 : Nat → Nat) (Tg2 : Nat → Nat) (Hd2 : Nat → Int32) (Av2 : Nat → Int32) (Ld2 : Nat → Nat)  : zk_MV l D g τ yX1_copy wsX1_copy rm_X1_copy [.ref uo, .ref vo] [(uo, .inr (1, [.int (nI nw), .int (nI m1), .ref us, .ref ut, .ref uh, .ref ua, .ref ul])), (us, .inl (g 0, 10, .inl (fun i => nI (Sn i)))), (ut, .inl (g 0, 10, .inl (fun i => nI (Tg i)))), (uh, .inl (g 0, 10, .inl Hd)), (ua, .inl (g 0, 10, .inl Av)), (ul, .inl (g 0, 6, .inl (fun i => nI (Ld i)))), (vo, .inr (1, [.int (nI nw2), .int (nI m2), .ref vs, .ref vt, .ref vh, .ref va, .ref vl])), (vs, .inl (g 0, 10, .inl (fun i => nI (Sn2 i)))), (vt, .inl (g 0, 10, .inl (fun i => nI (Tg2 i)))), (vh, .inl (g 0, 10, .inl Hd2)), (va, .inl (g 0, 10, .inl Av2)), (vl, .inl (g 0, 6, .inl (fun i => nI (Ld2 i))))] (fun (_ : Unit) => True) (fun (_ : Unit) => [(uo, .inr (1, [.int (nI nw2), .int (nI m2), .ref us, .ref ut, .ref uh, .ref ua, .ref ul])), (us, .inl (g 0, 10, .inl (fun i => nI (zs_fill Sn2 Sn 10 i)))), (ut, .inl (g 0, 10, .inl (fun i => nI (zs_fill Tg2 Tg 10 i)))), (uh, .inl (g 0, 10, .inl (zs_fill Hd2 Hd 10))), (ua, .inl (g 0, 10, .inl (zs_fill Av2 Av 10))), (ul, .inl (g 0, 6, .inl (fun i => nI (zs_fill Ld2 Ld 6 i)))), (vo, .inr (1, [.int (nI nw2), .int (nI m2), .ref vs, .ref vt, .ref vh, .ref va, .ref vl])), (vs, .inl (g 0, 10, .inl (fun i => nI (Sn2 i)))), (vt, .inl (g 0, 10, .inl (fun i => nI (Tg2 i)))), (vh, .inl (g 0, 10, .inl Hd2)), (va, .inl (g 0, 10, .inl Av2)), (vl, .inl (g 0, 6, .inl (fun i => nI (Ld2 i))))]) := by
  refine zk_of (Qc := fun A => va_Qv (fun (_ : Unit) => True) (zk_B D g A (fun (_ : Unit) => [(uo, .inr (1, [.int (nI nw2), .int (nI m2), .ref us, .ref ut, .ref uh, .ref ua, .ref ul])), (us, .inl (g 0, 10, .inl (fun i => nI (zs_fill Sn2 Sn 10 i)))), (ut, .inl (g 0, 10, .inl (fun i => nI (zs_fill Tg2 Tg 10 i)))), (uh, .inl (g 0, 10, .inl (zs_fill Hd2 Hd 10))), (ua, .inl (g 0, 10, .inl (zs_fill Av2 Av 10))), (ul, .inl (g 0, 6, .inl (fun i => nI (zs_fill Ld2 Ld 6 i)))), (vo, .inr (1, [.int (nI nw2), .int (nI m2), .ref vs, .ref vt, .ref vh, .ref va, .ref vl])), (vs, .inl (g 0, 10, .inl (fun i => nI (Sn2 i)))), (vt, .inl (g 0, 10, .inl (fun i => nI (Tg2 i)))), (vh, .inl (g 0, 10, .inl Hd2)), (va, .inl (g 0, 10, .inl Av2)), (vl, .inl (g 0, 6, .inl (fun i => nI (Ld2 i))))])) A) (cc := cX1_copy) (maxL := 2) (ret := none) (own := RX1) (by decide) rfl rfl (Nat.le_of_ble_eq_true rfl) ?_
  intro pP eE sS mM args below meth cC aA ls qQ Z hR_ hlk hnm hK hT hA hQ G hl
  have hinX1 : ∀ w ∈ u_ws RX1 TX1 7, w ∈ wsX1_copy := (fun _ h => List.mem_cons_of_mem _ (List.mem_append_right _ h))
  refine lv_aload_n Z.1 Z.2.1 dX1_copy_0 rfl (lv_at hl 0 rfl) ?_
  refine lv_aload_n Z.1 Z.2.1 dX1_copy_1 rfl (lv_at hl 1 rfl) ?_
  refine zk_get (C := RX1) (T := TX1) (N := 7) (ci := 1) Z hK G hinX1 6 rfl rfl 0 (by decide) (List.mem_of_getElem? (i := 1) rfl) rfl (v := .int (nI nw2)) rfl dX1_copy_2 ?_
  refine zk_put tyX1 tyX1_ok nmX1 (C := RX1) (T := TX1) (N := 7) (ci := 1) Z hK G hinX1 0 rfl rfl 0 (by decide) (List.mem_of_getElem? (i := 1) rfl) rfl rfl rfl rfl (Nat.le_of_ble_eq_true rfl) (ws' := [(uo, .inr (1, [.int (nI nw2), .int (nI m1), .ref us, .ref ut, .ref uh, .ref ua, .ref ul])), (us, .inl (g 0, 10, .inl (fun i => nI (Sn i)))), (ut, .inl (g 0, 10, .inl (fun i => nI (Tg i)))), (uh, .inl (g 0, 10, .inl Hd)), (ua, .inl (g 0, 10, .inl Av)), (ul, .inl (g 0, 6, .inl (fun i => nI (Ld i)))), (vo, .inr (1, [.int (nI nw2), .int (nI m2), .ref vs, .ref vt, .ref vh, .ref va, .ref vl])), (vs, .inl (g 0, 10, .inl (fun i => nI (Sn2 i)))), (vt, .inl (g 0, 10, .inl (fun i => nI (Tg2 i)))), (vh, .inl (g 0, 10, .inl Hd2)), (va, .inl (g 0, 10, .inl Av2)), (vl, .inl (g 0, 6, .inl (fun i => nI (Ld2 i))))]) rfl dX1_copy_5 (fun H locs G => ?_)
  refine lv_aload_n Z.1 Z.2.1 dX1_copy_8 rfl (lv_at hl 0 rfl) ?_
  refine lv_aload_n Z.1 Z.2.1 dX1_copy_9 rfl (lv_at hl 1 rfl) ?_
  refine zk_get (C := RX1) (T := TX1) (N := 7) (ci := 1) Z hK G hinX1 6 rfl rfl 1 (by decide) (List.mem_of_getElem? (i := 2) rfl) rfl (v := .int (nI m2)) rfl dX1_copy_10 ?_
  refine zk_put tyX1 tyX1_ok nmX1 (C := RX1) (T := TX1) (N := 7) (ci := 1) Z hK G hinX1 0 rfl rfl 1 (by decide) (List.mem_of_getElem? (i := 2) rfl) rfl rfl rfl rfl (Nat.le_of_ble_eq_true rfl) (ws' := [(uo, .inr (1, [.int (nI nw2), .int (nI m2), .ref us, .ref ut, .ref uh, .ref ua, .ref ul])), (us, .inl (g 0, 10, .inl (fun i => nI (Sn i)))), (ut, .inl (g 0, 10, .inl (fun i => nI (Tg i)))), (uh, .inl (g 0, 10, .inl Hd)), (ua, .inl (g 0, 10, .inl Av)), (ul, .inl (g 0, 6, .inl (fun i => nI (Ld i)))), (vo, .inr (1, [.int (nI nw2), .int (nI m2), .ref vs, .ref vt, .ref vh, .ref va, .ref vl])), (vs, .inl (g 0, 10, .inl (fun i => nI (Sn2 i)))), (vt, .inl (g 0, 10, .inl (fun i => nI (Tg2 i)))), (vh, .inl (g 0, 10, .inl Hd2)), (va, .inl (g 0, 10, .inl Av2)), (vl, .inl (g 0, 6, .inl (fun i => nI (Ld2 i))))]) rfl dX1_copy_13 (fun H locs G => ?_)
  refine lv_aload_n Z.1 Z.2.1 dX1_copy_16 rfl (lv_at hl 1 rfl) ?_
  refine zk_get (C := RX1) (T := TX1) (N := 7) (ci := 1) Z hK G hinX1 6 rfl rfl 2 (by decide) (List.mem_of_getElem? (i := 3) rfl) rfl (v := .ref vs) rfl dX1_copy_17 ?_
  refine lv_iconst (v := nI 0) Z.1 Z.2.1 dX1_copy_20 (by decide +kernel) ?_
  refine lv_aload_n Z.1 Z.2.1 dX1_copy_21 rfl (lv_at hl 0 rfl) ?_
  refine zk_get (C := RX1) (T := TX1) (N := 7) (ci := 1) Z hK G hinX1 0 rfl rfl 2 (by decide) (List.mem_of_getElem? (i := 3) rfl) rfl (v := .ref us) rfl dX1_copy_22 ?_
  refine lv_iconst (v := nI 0) Z.1 Z.2.1 dX1_copy_25 (by decide +kernel) ?_
  refine lv_bipush (v := nI 10) Z.1 Z.2.1 dX1_copy_26 (by decide +kernel) ?_
  refine zk_copyi Z hl.1 (List.mem_of_getElem? (i := 4) rfl) (List.mem_of_getElem? (i := 5) rfl) (List.mem_of_getElem? (i := 6) rfl) (List.mem_of_getElem? (i := 7) rfl) hK G 7 1 rfl rfl (sp := 0) (dp := 0) (n := 10) (by omega) (by omega) (by decide) (by decide) (by decide) (by decide) (zs_cpy_n _ _ _) (ws' := [(uo, .inr (1, [.int (nI nw2), .int (nI m2), .ref us, .ref ut, .ref uh, .ref ua, .ref ul])), (us, .inl (g 0, 10, .inl (fun i => nI (zs_fill Sn2 Sn 10 i)))), (ut, .inl (g 0, 10, .inl (fun i => nI (Tg i)))), (uh, .inl (g 0, 10, .inl Hd)), (ua, .inl (g 0, 10, .inl Av)), (ul, .inl (g 0, 6, .inl (fun i => nI (Ld i)))), (vo, .inr (1, [.int (nI nw2), .int (nI m2), .ref vs, .ref vt, .ref vh, .ref va, .ref vl])), (vs, .inl (g 0, 10, .inl (fun i => nI (Sn2 i)))), (vt, .inl (g 0, 10, .inl (fun i => nI (Tg2 i)))), (vh, .inl (g 0, 10, .inl Hd2)), (va, .inl (g 0, 10, .inl Av2)), (vl, .inl (g 0, 6, .inl (fun i => nI (Ld2 i))))]) rfl dX1_copy_28 (fun H locs G => ?_)
  refine lv_aload_n Z.1 Z.2.1 dX1_copy_31 rfl (lv_at hl 1 rfl) ?_
  refine zk_get (C := RX1) (T := TX1) (N := 7) (ci := 1) Z hK G hinX1 6 rfl rfl 3 (by decide) (List.mem_of_getElem? (i := 8) rfl) rfl (v := .ref vt) rfl dX1_copy_32 ?_
  refine lv_iconst (v := nI 0) Z.1 Z.2.1 dX1_copy_35 (by decide +kernel) ?_
  refine lv_aload_n Z.1 Z.2.1 dX1_copy_36 rfl (lv_at hl 0 rfl) ?_
  refine zk_get (C := RX1) (T := TX1) (N := 7) (ci := 1) Z hK G hinX1 0 rfl rfl 3 (by decide) (List.mem_of_getElem? (i := 8) rfl) rfl (v := .ref ut) rfl dX1_copy_37 ?_
  refine lv_iconst (v := nI 0) Z.1 Z.2.1 dX1_copy_40 (by decide +kernel) ?_
  refine lv_bipush (v := nI 10) Z.1 Z.2.1 dX1_copy_41 (by decide +kernel) ?_
  refine zk_copyi Z hl.1 (List.mem_of_getElem? (i := 4) rfl) (List.mem_of_getElem? (i := 5) rfl) (List.mem_of_getElem? (i := 6) rfl) (List.mem_of_getElem? (i := 7) rfl) hK G 8 2 rfl rfl (sp := 0) (dp := 0) (n := 10) (by omega) (by omega) (by decide) (by decide) (by decide) (by decide) (zs_cpy_n _ _ _) (ws' := [(uo, .inr (1, [.int (nI nw2), .int (nI m2), .ref us, .ref ut, .ref uh, .ref ua, .ref ul])), (us, .inl (g 0, 10, .inl (fun i => nI (zs_fill Sn2 Sn 10 i)))), (ut, .inl (g 0, 10, .inl (fun i => nI (zs_fill Tg2 Tg 10 i)))), (uh, .inl (g 0, 10, .inl Hd)), (ua, .inl (g 0, 10, .inl Av)), (ul, .inl (g 0, 6, .inl (fun i => nI (Ld i)))), (vo, .inr (1, [.int (nI nw2), .int (nI m2), .ref vs, .ref vt, .ref vh, .ref va, .ref vl])), (vs, .inl (g 0, 10, .inl (fun i => nI (Sn2 i)))), (vt, .inl (g 0, 10, .inl (fun i => nI (Tg2 i)))), (vh, .inl (g 0, 10, .inl Hd2)), (va, .inl (g 0, 10, .inl Av2)), (vl, .inl (g 0, 6, .inl (fun i => nI (Ld2 i))))]) rfl dX1_copy_43 (fun H locs G => ?_)
  refine lv_aload_n Z.1 Z.2.1 dX1_copy_46 rfl (lv_at hl 1 rfl) ?_
  refine zk_get (C := RX1) (T := TX1) (N := 7) (ci := 1) Z hK G hinX1 6 rfl rfl 4 (by decide) (List.mem_of_getElem? (i := 9) rfl) rfl (v := .ref vh) rfl dX1_copy_47 ?_
  refine lv_iconst (v := nI 0) Z.1 Z.2.1 dX1_copy_50 (by decide +kernel) ?_
  refine lv_aload_n Z.1 Z.2.1 dX1_copy_51 rfl (lv_at hl 0 rfl) ?_
  refine zk_get (C := RX1) (T := TX1) (N := 7) (ci := 1) Z hK G hinX1 0 rfl rfl 4 (by decide) (List.mem_of_getElem? (i := 9) rfl) rfl (v := .ref uh) rfl dX1_copy_52 ?_
  refine lv_iconst (v := nI 0) Z.1 Z.2.1 dX1_copy_55 (by decide +kernel) ?_
  refine lv_bipush (v := nI 10) Z.1 Z.2.1 dX1_copy_56 (by decide +kernel) ?_
  refine zk_copyi Z hl.1 (List.mem_of_getElem? (i := 4) rfl) (List.mem_of_getElem? (i := 5) rfl) (List.mem_of_getElem? (i := 6) rfl) (List.mem_of_getElem? (i := 7) rfl) hK G 9 3 rfl rfl (sp := 0) (dp := 0) (n := 10) (by omega) (by omega) (by decide) (by decide) (by decide) (by decide) (zs_cpy_r _ _ _) (ws' := [(uo, .inr (1, [.int (nI nw2), .int (nI m2), .ref us, .ref ut, .ref uh, .ref ua, .ref ul])), (us, .inl (g 0, 10, .inl (fun i => nI (zs_fill Sn2 Sn 10 i)))), (ut, .inl (g 0, 10, .inl (fun i => nI (zs_fill Tg2 Tg 10 i)))), (uh, .inl (g 0, 10, .inl (zs_fill Hd2 Hd 10))), (ua, .inl (g 0, 10, .inl Av)), (ul, .inl (g 0, 6, .inl (fun i => nI (Ld i)))), (vo, .inr (1, [.int (nI nw2), .int (nI m2), .ref vs, .ref vt, .ref vh, .ref va, .ref vl])), (vs, .inl (g 0, 10, .inl (fun i => nI (Sn2 i)))), (vt, .inl (g 0, 10, .inl (fun i => nI (Tg2 i)))), (vh, .inl (g 0, 10, .inl Hd2)), (va, .inl (g 0, 10, .inl Av2)), (vl, .inl (g 0, 6, .inl (fun i => nI (Ld2 i))))]) rfl dX1_copy_58 (fun H locs G => ?_)
  refine lv_aload_n Z.1 Z.2.1 dX1_copy_61 rfl (lv_at hl 1 rfl) ?_
  refine zk_get (C := RX1) (T := TX1) (N := 7) (ci := 1) Z hK G hinX1 6 rfl rfl 5 (by decide) (List.mem_of_getElem? (i := 10) rfl) rfl (v := .ref va) rfl dX1_copy_62 ?_
  refine lv_iconst (v := nI 0) Z.1 Z.2.1 dX1_copy_65 (by decide +kernel) ?_
  refine lv_aload_n Z.1 Z.2.1 dX1_copy_66 rfl (lv_at hl 0 rfl) ?_
  refine zk_get (C := RX1) (T := TX1) (N := 7) (ci := 1) Z hK G hinX1 0 rfl rfl 5 (by decide) (List.mem_of_getElem? (i := 10) rfl) rfl (v := .ref ua) rfl dX1_copy_67 ?_
  refine lv_iconst (v := nI 0) Z.1 Z.2.1 dX1_copy_70 (by decide +kernel) ?_
  refine lv_bipush (v := nI 10) Z.1 Z.2.1 dX1_copy_71 (by decide +kernel) ?_
  refine zk_copyi Z hl.1 (List.mem_of_getElem? (i := 4) rfl) (List.mem_of_getElem? (i := 5) rfl) (List.mem_of_getElem? (i := 6) rfl) (List.mem_of_getElem? (i := 7) rfl) hK G 10 4 rfl rfl (sp := 0) (dp := 0) (n := 10) (by omega) (by omega) (by decide) (by decide) (by decide) (by decide) (zs_cpy_r _ _ _) (ws' := [(uo, .inr (1, [.int (nI nw2), .int (nI m2), .ref us, .ref ut, .ref uh, .ref ua, .ref ul])), (us, .inl (g 0, 10, .inl (fun i => nI (zs_fill Sn2 Sn 10 i)))), (ut, .inl (g 0, 10, .inl (fun i => nI (zs_fill Tg2 Tg 10 i)))), (uh, .inl (g 0, 10, .inl (zs_fill Hd2 Hd 10))), (ua, .inl (g 0, 10, .inl (zs_fill Av2 Av 10))), (ul, .inl (g 0, 6, .inl (fun i => nI (Ld i)))), (vo, .inr (1, [.int (nI nw2), .int (nI m2), .ref vs, .ref vt, .ref vh, .ref va, .ref vl])), (vs, .inl (g 0, 10, .inl (fun i => nI (Sn2 i)))), (vt, .inl (g 0, 10, .inl (fun i => nI (Tg2 i)))), (vh, .inl (g 0, 10, .inl Hd2)), (va, .inl (g 0, 10, .inl Av2)), (vl, .inl (g 0, 6, .inl (fun i => nI (Ld2 i))))]) rfl dX1_copy_73 (fun H locs G => ?_)
  refine lv_aload_n Z.1 Z.2.1 dX1_copy_76 rfl (lv_at hl 1 rfl) ?_
  refine zk_get (C := RX1) (T := TX1) (N := 7) (ci := 1) Z hK G hinX1 6 rfl rfl 6 (by decide) (List.mem_of_getElem? (i := 11) rfl) rfl (v := .ref vl) rfl dX1_copy_77 ?_
  refine lv_iconst (v := nI 0) Z.1 Z.2.1 dX1_copy_80 (by decide +kernel) ?_
  refine lv_aload_n Z.1 Z.2.1 dX1_copy_81 rfl (lv_at hl 0 rfl) ?_
  refine zk_get (C := RX1) (T := TX1) (N := 7) (ci := 1) Z hK G hinX1 0 rfl rfl 6 (by decide) (List.mem_of_getElem? (i := 11) rfl) rfl (v := .ref ul) rfl dX1_copy_82 ?_
  refine lv_iconst (v := nI 0) Z.1 Z.2.1 dX1_copy_85 (by decide +kernel) ?_
  refine lv_bipush (v := nI 6) Z.1 Z.2.1 dX1_copy_86 (by decide +kernel) ?_
  refine zk_copyi Z hl.1 (List.mem_of_getElem? (i := 4) rfl) (List.mem_of_getElem? (i := 5) rfl) (List.mem_of_getElem? (i := 6) rfl) (List.mem_of_getElem? (i := 7) rfl) hK G 11 5 rfl rfl (sp := 0) (dp := 0) (n := 6) (by omega) (by omega) (by decide) (by decide) (by decide) (by decide) (zs_cpy_n _ _ _) (ws' := [(uo, .inr (1, [.int (nI nw2), .int (nI m2), .ref us, .ref ut, .ref uh, .ref ua, .ref ul])), (us, .inl (g 0, 10, .inl (fun i => nI (zs_fill Sn2 Sn 10 i)))), (ut, .inl (g 0, 10, .inl (fun i => nI (zs_fill Tg2 Tg 10 i)))), (uh, .inl (g 0, 10, .inl (zs_fill Hd2 Hd 10))), (ua, .inl (g 0, 10, .inl (zs_fill Av2 Av 10))), (ul, .inl (g 0, 6, .inl (fun i => nI (zs_fill Ld2 Ld 6 i)))), (vo, .inr (1, [.int (nI nw2), .int (nI m2), .ref vs, .ref vt, .ref vh, .ref va, .ref vl])), (vs, .inl (g 0, 10, .inl (fun i => nI (Sn2 i)))), (vt, .inl (g 0, 10, .inl (fun i => nI (Tg2 i)))), (vh, .inl (g 0, 10, .inl Hd2)), (va, .inl (g 0, 10, .inl Av2)), (vl, .inl (g 0, 6, .inl (fun i => nI (Ld2 i))))]) rfl dX1_copy_88 (fun H locs G => ?_)
  exact zk_retv Z hR_ hlk hK hQ G () trivial rfl dX1_copy_91

abbrev rm_X4_holdsNothing : Room := { frames := 0, cells := 0, slots := 0, locals := 0 }
theorem dvX4_holdsNothing : zk_dv yX4_holdsNothing RX4 0 := by decide +kernel
set_option maxRecDepth 100000 in
set_option maxHeartbeats 4000000 in
theorem ct_X4_holdsNothing (l : Launch) (D : va_G) (g : Nat → ClassId) (τ : Nat → Nat) (so : Nat) (si : Nat) (sort : Int32) (ln : Nat) (rel : Int32)  : zk_MI l D g τ yX4_holdsNothing wsX4_holdsNothing rm_X4_holdsNothing [.ref so] [(so, .inr (4, [.ref si, .int sort, .int (nI ln), .int rel]))] (fun (r : Int32) (_ : Unit) => r = zk_b (zh_non sort rel)) (fun (_ : Unit) => [(so, .inr (4, [.ref si, .int sort, .int (nI ln), .int rel]))]) := by
  refine zk_of (Qc := fun A => va_Qi (fun (r : Int32) (_ : Unit) => r = zk_b (zh_non sort rel)) (zk_B D g A (fun (_ : Unit) => [(so, .inr (4, [.ref si, .int sort, .int (nI ln), .int rel]))])) A) (cc := cX4_holdsNothing) (maxL := 1) (ret := (some .boolean)) (own := RX4) (by decide) rfl rfl (Nat.le_of_ble_eq_true rfl) ?_
  intro pP eE sS mM args below meth cC aA ls qQ Z hR_ hlk hnm hK hT hA hQ G hl
  have hinX4 : ∀ w ∈ u_ws RX4 TX4 4, w ∈ wsX4_holdsNothing := (fun _ h => List.mem_cons_of_mem _ (List.mem_append_right _ h))
  refine lv_aload_n Z.1 Z.2.1 dX4_holdsNothing_0 rfl (lv_at hl 0 rfl) ?_
  refine zk_get (C := RX4) (T := TX4) (N := 4) (ci := 4) Z hK G hinX4 0 rfl rfl 1 (by decide) (List.mem_of_getElem? (i := 1) rfl) rfl (v := .int sort) rfl dX4_holdsNothing_1 ?_
  refine lv_if_ge (tgt := 18) Z.1 Z.2.1 dX4_holdsNothing_4 (by decide) (fun c4 => ?_) (fun c4 => ?_)
  · have c4 : 0 ≤ sort := c4
    refine lv_iconst (v := nI 0) Z.1 Z.2.1 dX4_holdsNothing_18 (by decide +kernel) ?_
    refine W.eq (g2 := F0 mM 19 ls [.int (zk_b false)]) rfl ?_
    exact zk_retz Z hR_ hlk hK hQ G () (congrArg zk_b (by simp [zh_non, c4])) rfl dX4_holdsNothing_19
  have c4 : ¬ 0 ≤ sort := c4
  refine lv_aload_n Z.1 Z.2.1 dX4_holdsNothing_7 rfl (lv_at hl 0 rfl) ?_
  refine zk_get (C := RX4) (T := TX4) (N := 4) (ci := 4) Z hK G hinX4 0 rfl rfl 3 (by decide) (List.mem_of_getElem? (i := 2) rfl) rfl (v := .int rel) rfl dX4_holdsNothing_8 ?_
  refine lv_if_ge (tgt := 18) Z.1 Z.2.1 dX4_holdsNothing_11 (by decide) (fun c11 => ?_) (fun c11 => ?_)
  · have c11 : 0 ≤ rel := c11
    refine lv_iconst (v := nI 0) Z.1 Z.2.1 dX4_holdsNothing_18 (by decide +kernel) ?_
    refine W.eq (g2 := F0 mM 19 ls [.int (zk_b false)]) rfl ?_
    exact zk_retz Z hR_ hlk hK hQ G () (congrArg zk_b (by simp [zh_non, c4, c11])) rfl dX4_holdsNothing_19
  have c11 : ¬ 0 ≤ rel := c11
  refine lv_iconst (v := nI 1) Z.1 Z.2.1 dX4_holdsNothing_14 (by decide +kernel) ?_
  refine lv_goto (tgt := 19) Z.1 Z.2.1 dX4_holdsNothing_15 (by decide) ?_
  refine W.eq (g2 := F0 mM 19 ls [.int (zk_b true)]) rfl ?_
  exact zk_retz Z hR_ hlk hK hQ G () (congrArg zk_b (by simp [zh_non, c4, c11])) rfl dX4_holdsNothing_19

abbrev rm_X4_holdsRow : Room := { frames := 0, cells := 0, slots := 0, locals := 0 }
theorem dvX4_holdsRow : zk_dv yX4_holdsRow RX4 0 := by decide +kernel
set_option maxRecDepth 100000 in
set_option maxHeartbeats 4000000 in
theorem ct_X4_holdsRow (l : Launch) (D : va_G) (g : Nat → ClassId) (τ : Nat → Nat) (so : Nat) (si : Nat) (sort : Int32) (ln : Nat) (rel : Int32)  : zk_MI l D g τ yX4_holdsRow wsX4_holdsRow rm_X4_holdsRow [.ref so] [(so, .inr (4, [.ref si, .int sort, .int (nI ln), .int rel]))] (fun (r : Int32) (_ : Unit) => r = zk_b (decide (¬ sort < 0))) (fun (_ : Unit) => [(so, .inr (4, [.ref si, .int sort, .int (nI ln), .int rel]))]) := by
  refine zk_of (Qc := fun A => va_Qi (fun (r : Int32) (_ : Unit) => r = zk_b (decide (¬ sort < 0))) (zk_B D g A (fun (_ : Unit) => [(so, .inr (4, [.ref si, .int sort, .int (nI ln), .int rel]))])) A) (cc := cX4_holdsRow) (maxL := 1) (ret := (some .boolean)) (own := RX4) (by decide) rfl rfl (Nat.le_of_ble_eq_true rfl) ?_
  intro pP eE sS mM args below meth cC aA ls qQ Z hR_ hlk hnm hK hT hA hQ G hl
  have hinX4 : ∀ w ∈ u_ws RX4 TX4 4, w ∈ wsX4_holdsRow := (fun _ h => List.mem_cons_of_mem _ (List.mem_append_right _ h))
  refine lv_aload_n Z.1 Z.2.1 dX4_holdsRow_0 rfl (lv_at hl 0 rfl) ?_
  refine zk_get (C := RX4) (T := TX4) (N := 4) (ci := 4) Z hK G hinX4 0 rfl rfl 1 (by decide) (List.mem_of_getElem? (i := 1) rfl) rfl (v := .int sort) rfl dX4_holdsRow_1 ?_
  refine lv_if_lt (tgt := 11) Z.1 Z.2.1 dX4_holdsRow_4 (by decide) (fun c4 => ?_) (fun c4 => ?_)
  · have c4 : sort < 0 := c4
    refine lv_iconst (v := nI 0) Z.1 Z.2.1 dX4_holdsRow_11 (by decide +kernel) ?_
    refine W.eq (g2 := F0 mM 12 ls [.int (zk_b false)]) rfl ?_
    exact zk_retz Z hR_ hlk hK hQ G () (congrArg zk_b (by simp [c4])) rfl dX4_holdsRow_12
  have c4 : ¬ sort < 0 := c4
  refine lv_iconst (v := nI 1) Z.1 Z.2.1 dX4_holdsRow_7 (by decide +kernel) ?_
  refine lv_goto (tgt := 12) Z.1 Z.2.1 dX4_holdsRow_8 (by decide) ?_
  refine W.eq (g2 := F0 mM 12 ls [.int (zk_b true)]) rfl ?_
  exact zk_retz Z hR_ hlk hK hQ G () (congrArg zk_b (by simp [c4])) rfl dX4_holdsRow_12

abbrev rm_X4_holdsRowOf : Room := { frames := 0, cells := 0, slots := 0, locals := 0 }
theorem dvX4_holdsRowOf : zk_dv yX4_holdsRowOf RX4 1 := by decide +kernel
set_option maxRecDepth 100000 in
set_option maxHeartbeats 4000000 in
theorem ct_X4_holdsRowOf (l : Launch) (D : va_G) (g : Nat → ClassId) (τ : Nat → Nat) (so : Nat) (si : Nat) (sort : Int32) (ln : Nat) (rel : Int32) (x : Int32)  : zk_MI l D g τ yX4_holdsRowOf wsX4_holdsRowOf rm_X4_holdsRowOf [.ref so, .int x] [(so, .inr (4, [.ref si, .int sort, .int (nI ln), .int rel]))] (fun (r : Int32) (_ : Unit) => r = zk_b (decide (¬ sort < 0) && decide (sort = x))) (fun (_ : Unit) => [(so, .inr (4, [.ref si, .int sort, .int (nI ln), .int rel]))]) := by
  refine zk_of (Qc := fun A => va_Qi (fun (r : Int32) (_ : Unit) => r = zk_b (decide (¬ sort < 0) && decide (sort = x))) (zk_B D g A (fun (_ : Unit) => [(so, .inr (4, [.ref si, .int sort, .int (nI ln), .int rel]))])) A) (cc := cX4_holdsRowOf) (maxL := 2) (ret := (some .boolean)) (own := RX4) (by decide) rfl rfl (Nat.le_of_ble_eq_true rfl) ?_
  intro pP eE sS mM args below meth cC aA ls qQ Z hR_ hlk hnm hK hT hA hQ G hl
  have hinX4 : ∀ w ∈ u_ws RX4 TX4 4, w ∈ wsX4_holdsRowOf := (fun _ h => List.mem_cons_of_mem _ (List.mem_append_right _ h))
  refine lv_aload_n Z.1 Z.2.1 dX4_holdsRowOf_0 rfl (lv_at hl 0 rfl) ?_
  refine zk_get (C := RX4) (T := TX4) (N := 4) (ci := 4) Z hK G hinX4 0 rfl rfl 1 (by decide) (List.mem_of_getElem? (i := 1) rfl) rfl (v := .int sort) rfl dX4_holdsRowOf_1 ?_
  refine lv_if_lt (tgt := 19) Z.1 Z.2.1 dX4_holdsRowOf_4 (by decide) (fun c4 => ?_) (fun c4 => ?_)
  · have c4 : sort < 0 := c4
    refine lv_iconst (v := nI 0) Z.1 Z.2.1 dX4_holdsRowOf_19 (by decide +kernel) ?_
    refine W.eq (g2 := F0 mM 20 ls [.int (zk_b false)]) rfl ?_
    exact zk_retz Z hR_ hlk hK hQ G () (congrArg zk_b (by rw [decide_eq_false (not_not_intro c4), Bool.false_and])) rfl dX4_holdsRowOf_20
  have c4 : ¬ sort < 0 := c4
  refine lv_aload_n Z.1 Z.2.1 dX4_holdsRowOf_7 rfl (lv_at hl 0 rfl) ?_
  refine zk_get (C := RX4) (T := TX4) (N := 4) (ci := 4) Z hK G hinX4 0 rfl rfl 1 (by decide) (List.mem_of_getElem? (i := 1) rfl) rfl (v := .int sort) rfl dX4_holdsRowOf_8 ?_
  refine lv_iload_n Z.1 Z.2.1 dX4_holdsRowOf_11 rfl (lv_at hl 1 rfl) ?_
  refine lv_icmp_ne (tgt := 19) Z.1 Z.2.1 dX4_holdsRowOf_12 (by decide) (fun c12 => ?_) (fun c12 => ?_)
  · have c12 : ¬ sort = x := c12
    refine lv_iconst (v := nI 0) Z.1 Z.2.1 dX4_holdsRowOf_19 (by decide +kernel) ?_
    refine W.eq (g2 := F0 mM 20 ls [.int (zk_b false)]) rfl ?_
    exact zk_retz Z hR_ hlk hK hQ G () (congrArg zk_b (by rw [decide_eq_false c12, Bool.and_false])) rfl dX4_holdsRowOf_20
  have c12 : sort = x := c12
  refine lv_iconst (v := nI 1) Z.1 Z.2.1 dX4_holdsRowOf_15 (by decide +kernel) ?_
  refine lv_goto (tgt := 20) Z.1 Z.2.1 dX4_holdsRowOf_16 (by decide) ?_
  refine W.eq (g2 := F0 mM 20 ls [.int (zk_b true)]) rfl ?_
  exact zk_retz Z hR_ hlk hK hQ G () (congrArg zk_b (by rw [decide_eq_true c4, decide_eq_true c12]; rfl)) rfl dX4_holdsRowOf_20

abbrev rm_X4_hasPlaces : Room := { frames := 0, cells := 0, slots := 0, locals := 0 }
theorem dvX4_hasPlaces : zk_dv yX4_hasPlaces RX4 2 := by decide +kernel
set_option maxRecDepth 100000 in
set_option maxHeartbeats 4000000 in
theorem ct_X4_hasPlaces (l : Launch) (D : va_G) (g : Nat → ClassId) (τ : Nat → Nat) (so : Nat) (si : Nat) (sort : Int32) (ln : Nat) (rel : Int32) (x : Int32) (y : Int32)  : zk_MI l D g τ yX4_hasPlaces wsX4_hasPlaces rm_X4_hasPlaces [.ref so, .int x, .int y] [(so, .inr (4, [.ref si, .int sort, .int (nI ln), .int rel]))] (fun (r : Int32) (_ : Unit) => r = zk_b (zh_pl ln x y)) (fun (_ : Unit) => [(so, .inr (4, [.ref si, .int sort, .int (nI ln), .int rel]))]) := by
  refine zk_of (Qc := fun A => va_Qi (fun (r : Int32) (_ : Unit) => r = zk_b (zh_pl ln x y)) (zk_B D g A (fun (_ : Unit) => [(so, .inr (4, [.ref si, .int sort, .int (nI ln), .int rel]))])) A) (cc := cX4_hasPlaces) (maxL := 3) (ret := (some .boolean)) (own := RX4) (by decide) rfl rfl (Nat.le_of_ble_eq_true rfl) ?_
  intro pP eE sS mM args below meth cC aA ls qQ Z hR_ hlk hnm hK hT hA hQ G hl
  have hinX4 : ∀ w ∈ u_ws RX4 TX4 4, w ∈ wsX4_hasPlaces := (fun _ h => List.mem_cons_of_mem _ (List.mem_append_right _ h))
  refine lv_iload_n Z.1 Z.2.1 dX4_hasPlaces_0 rfl (lv_at hl 1 rfl) ?_
  refine lv_if_lt (tgt := 30) Z.1 Z.2.1 dX4_hasPlaces_1 (by decide) (fun c1 => ?_) (fun c1 => ?_)
  · have c1 : x < 0 := c1
    refine lv_iconst (v := nI 0) Z.1 Z.2.1 dX4_hasPlaces_30 (by decide +kernel) ?_
    refine W.eq (g2 := F0 mM 31 ls [.int (zk_b false)]) rfl ?_
    exact zk_retz Z hR_ hlk hK hQ G () (congrArg zk_b (by simp [zh_pl, c1])) rfl dX4_hasPlaces_31
  have c1 : ¬ x < 0 := c1
  refine lv_iload_n Z.1 Z.2.1 dX4_hasPlaces_4 rfl (lv_at hl 2 rfl) ?_
  refine lv_if_lt (tgt := 30) Z.1 Z.2.1 dX4_hasPlaces_5 (by decide) (fun c5 => ?_) (fun c5 => ?_)
  · have c5 : y < 0 := c5
    refine lv_iconst (v := nI 0) Z.1 Z.2.1 dX4_hasPlaces_30 (by decide +kernel) ?_
    refine W.eq (g2 := F0 mM 31 ls [.int (zk_b false)]) rfl ?_
    exact zk_retz Z hR_ hlk hK hQ G () (congrArg zk_b (by simp [zh_pl, c1, c5])) rfl dX4_hasPlaces_31
  have c5 : ¬ y < 0 := c5
  refine lv_iload_n Z.1 Z.2.1 dX4_hasPlaces_8 rfl (lv_at hl 1 rfl) ?_
  refine lv_aload_n Z.1 Z.2.1 dX4_hasPlaces_9 rfl (lv_at hl 0 rfl) ?_
  refine zk_get (C := RX4) (T := TX4) (N := 4) (ci := 4) Z hK G hinX4 0 rfl rfl 2 (by decide) (List.mem_of_getElem? (i := 1) rfl) rfl (v := .int (nI ln)) rfl dX4_hasPlaces_10 ?_
  refine lv_icmp_gt (tgt := 30) Z.1 Z.2.1 dX4_hasPlaces_13 (by decide) (fun c13 => ?_) (fun c13 => ?_)
  · have c13 : nI ln < x := c13
    refine lv_iconst (v := nI 0) Z.1 Z.2.1 dX4_hasPlaces_30 (by decide +kernel) ?_
    refine W.eq (g2 := F0 mM 31 ls [.int (zk_b false)]) rfl ?_
    exact zk_retz Z hR_ hlk hK hQ G () (congrArg zk_b (by simp [zh_pl, c1, c5, c13])) rfl dX4_hasPlaces_31
  have c13 : ¬ nI ln < x := c13
  refine lv_iload_n Z.1 Z.2.1 dX4_hasPlaces_16 rfl (lv_at hl 2 rfl) ?_
  refine lv_aload_n Z.1 Z.2.1 dX4_hasPlaces_17 rfl (lv_at hl 0 rfl) ?_
  refine zk_get (C := RX4) (T := TX4) (N := 4) (ci := 4) Z hK G hinX4 0 rfl rfl 2 (by decide) (List.mem_of_getElem? (i := 1) rfl) rfl (v := .int (nI ln)) rfl dX4_hasPlaces_18 ?_
  refine lv_iload_n Z.1 Z.2.1 dX4_hasPlaces_21 rfl (lv_at hl 1 rfl) ?_
  refine zk_isub Z dX4_hasPlaces_22 (z := (nI ln) - x) rfl ?_
  refine lv_icmp_gt (tgt := 30) Z.1 Z.2.1 dX4_hasPlaces_23 (by decide) (fun c23 => ?_) (fun c23 => ?_)
  · have c23 : (nI ln) - x < y := c23
    refine lv_iconst (v := nI 0) Z.1 Z.2.1 dX4_hasPlaces_30 (by decide +kernel) ?_
    refine W.eq (g2 := F0 mM 31 ls [.int (zk_b false)]) rfl ?_
    exact zk_retz Z hR_ hlk hK hQ G () (congrArg zk_b (by simp [zh_pl, c1, c5, c13, c23])) rfl dX4_hasPlaces_31
  have c23 : ¬ (nI ln) - x < y := c23
  refine lv_iconst (v := nI 1) Z.1 Z.2.1 dX4_hasPlaces_26 (by decide +kernel) ?_
  refine lv_goto (tgt := 31) Z.1 Z.2.1 dX4_hasPlaces_27 (by decide) ?_
  refine W.eq (g2 := F0 mM 31 ls [.int (zk_b true)]) rfl ?_
  exact zk_retz Z hR_ hlk hK hQ G () (congrArg zk_b (by simp [zh_pl, c1, c5, c13, c23])) rfl dX4_hasPlaces_31

abbrev rm_X4_holdRelay : Room := { frames := 0, cells := 0, slots := 0, locals := 0 }
theorem dvX4_holdRelay : zk_dv yX4_holdRelay RX4 1 := by decide +kernel
set_option maxRecDepth 100000 in
set_option maxHeartbeats 4000000 in
theorem ct_X4_holdRelay (l : Launch) (D : va_G) (g : Nat → ClassId) (τ : Nat → Nat) (so : Nat) (si : Nat) (sort : Int32) (ln : Nat) (rel : Int32) (x : Int32)  : zk_MV l D g τ yX4_holdRelay wsX4_holdRelay rm_X4_holdRelay [.ref so, .int x] [(so, .inr (4, [.ref si, .int sort, .int (nI ln), .int rel]))] (fun (_ : Unit) => True) (fun (_ : Unit) => [(so, .inr (4, [.ref si, .int (-1), .int (nI 0), .int x]))]) := by
  refine zk_of (Qc := fun A => va_Qv (fun (_ : Unit) => True) (zk_B D g A (fun (_ : Unit) => [(so, .inr (4, [.ref si, .int (-1), .int (nI 0), .int x]))])) A) (cc := cX4_holdRelay) (maxL := 2) (ret := none) (own := RX4) (by decide) rfl rfl (Nat.le_of_ble_eq_true rfl) ?_
  intro pP eE sS mM args below meth cC aA ls qQ Z hR_ hlk hnm hK hT hA hQ G hl
  have hinX4 : ∀ w ∈ u_ws RX4 TX4 4, w ∈ wsX4_holdRelay := (fun _ h => List.mem_cons_of_mem _ (List.mem_append_right _ h))
  refine lv_aload_n Z.1 Z.2.1 dX4_holdRelay_0 rfl (lv_at hl 0 rfl) ?_
  refine lv_iload_n Z.1 Z.2.1 dX4_holdRelay_1 rfl (lv_at hl 1 rfl) ?_
  refine zk_put tyX4 tyX4_ok nmX4 (C := RX4) (T := TX4) (N := 4) (ci := 4) Z hK G hinX4 0 rfl rfl 3 (by decide) (List.mem_of_getElem? (i := 1) rfl) rfl rfl rfl rfl (Nat.le_of_ble_eq_true rfl) (ws' := [(so, .inr (4, [.ref si, .int sort, .int (nI ln), .int x]))]) rfl dX4_holdRelay_2 (fun H locs G => ?_)
  refine lv_aload_n Z.1 Z.2.1 dX4_holdRelay_5 rfl (lv_at hl 0 rfl) ?_
  refine lv_iconst (v := (-1)) Z.1 Z.2.1 dX4_holdRelay_6 (by decide +kernel) ?_
  refine zk_put tyX4 tyX4_ok nmX4 (C := RX4) (T := TX4) (N := 4) (ci := 4) Z hK G hinX4 0 rfl rfl 1 (by decide) (List.mem_of_getElem? (i := 2) rfl) rfl rfl rfl rfl (Nat.le_of_ble_eq_true rfl) (ws' := [(so, .inr (4, [.ref si, .int (-1), .int (nI ln), .int x]))]) rfl dX4_holdRelay_7 (fun H locs G => ?_)
  refine lv_aload_n Z.1 Z.2.1 dX4_holdRelay_10 rfl (lv_at hl 0 rfl) ?_
  refine lv_iconst (v := nI 0) Z.1 Z.2.1 dX4_holdRelay_11 (by decide +kernel) ?_
  refine zk_put tyX4 tyX4_ok nmX4 (C := RX4) (T := TX4) (N := 4) (ci := 4) Z hK G hinX4 0 rfl rfl 2 (by decide) (List.mem_of_getElem? (i := 3) rfl) rfl rfl rfl rfl (Nat.le_of_ble_eq_true rfl) (ws' := [(so, .inr (4, [.ref si, .int (-1), .int (nI 0), .int x]))]) rfl dX4_holdRelay_12 (fun H locs G => ?_)
  exact zk_retv Z hR_ hlk hK hQ G () trivial rfl dX4_holdRelay_15

abbrev rm_X4_holdRow : Room := { frames := 1, cells := 0, slots := 0, locals := 24 }
theorem dvX4_holdRow : zk_dv yX4_holdRow RX4 2 := by decide +kernel
set_option maxRecDepth 100000 in
set_option maxHeartbeats 4000000 in
theorem ct_X4_holdRow (l : Launch) (D : va_G) (g : Nat → ClassId) (τ : Nat → Nat) (so : Nat) (si : Nat) (sort : Int32) (ln : Nat) (rel : Int32) (It : Nat → Int64) (x : Int32) (y : Nat)  : zk_MV l D g τ yX4_holdRow wsX4_holdRow rm_X4_holdRow [.ref so, .int x, .int (nI y)] [(so, .inr (4, [.ref si, .int sort, .int (nI ln), .int rel])), (si, .inl (g 1, 60, .inr (.inl It)))] (fun (_ : Unit) => True) (fun (_ : Unit) => [(so, .inr (4, [.ref si, .int x, .int (nI y), .int (-1)])), (si, .inl (g 1, 60, .inr (.inl (zs_fill (fun _ => lN 0) It 60))))]) := by
  refine zk_of (Qc := fun A => va_Qv (fun (_ : Unit) => True) (zk_B D g A (fun (_ : Unit) => [(so, .inr (4, [.ref si, .int x, .int (nI y), .int (-1)])), (si, .inl (g 1, 60, .inr (.inl (zs_fill (fun _ => lN 0) It 60))))])) A) (cc := cX4_holdRow) (maxL := 3) (ret := none) (own := RX4) (by decide) rfl rfl (Nat.le_of_ble_eq_true rfl) ?_
  intro pP eE sS mM args below meth cC aA ls qQ Z hR_ hlk hnm hK hT hA hQ G hl
  have hinX4 : ∀ w ∈ u_ws RX4 TX4 4, w ∈ wsX4_holdRow := (fun _ h => List.mem_cons_of_mem _ (List.mem_append_right _ h))
  refine lv_aload_n Z.1 Z.2.1 dX4_holdRow_0 rfl (lv_at hl 0 rfl) ?_
  refine lv_iconst (v := (-1)) Z.1 Z.2.1 dX4_holdRow_1 (by decide +kernel) ?_
  refine zk_put tyX4 tyX4_ok nmX4 (C := RX4) (T := TX4) (N := 4) (ci := 4) Z hK G hinX4 0 rfl rfl 3 (by decide) (List.mem_of_getElem? (i := 1) rfl) rfl rfl rfl rfl (Nat.le_of_ble_eq_true rfl) (ws' := [(so, .inr (4, [.ref si, .int sort, .int (nI ln), .int (-1)])), (si, .inl (g 1, 60, .inr (.inl It)))]) rfl dX4_holdRow_2 (fun H locs G => ?_)
  refine lv_aload_n Z.1 Z.2.1 dX4_holdRow_5 rfl (lv_at hl 0 rfl) ?_
  refine lv_iload_n Z.1 Z.2.1 dX4_holdRow_6 rfl (lv_at hl 1 rfl) ?_
  refine zk_put tyX4 tyX4_ok nmX4 (C := RX4) (T := TX4) (N := 4) (ci := 4) Z hK G hinX4 0 rfl rfl 1 (by decide) (List.mem_of_getElem? (i := 2) rfl) rfl rfl rfl rfl (Nat.le_of_ble_eq_true rfl) (ws' := [(so, .inr (4, [.ref si, .int x, .int (nI ln), .int (-1)])), (si, .inl (g 1, 60, .inr (.inl It)))]) rfl dX4_holdRow_7 (fun H locs G => ?_)
  refine lv_aload_n Z.1 Z.2.1 dX4_holdRow_10 rfl (lv_at hl 0 rfl) ?_
  refine lv_iload_n Z.1 Z.2.1 dX4_holdRow_11 rfl (lv_at hl 2 rfl) ?_
  refine zk_put tyX4 tyX4_ok nmX4 (C := RX4) (T := TX4) (N := 4) (ci := 4) Z hK G hinX4 0 rfl rfl 2 (by decide) (List.mem_of_getElem? (i := 3) rfl) rfl rfl rfl rfl (Nat.le_of_ble_eq_true rfl) (ws' := [(so, .inr (4, [.ref si, .int x, .int (nI y), .int (-1)])), (si, .inl (g 1, 60, .inr (.inl It)))]) rfl dX4_holdRow_12 (fun H locs G => ?_)
  refine lv_aload_n Z.1 Z.2.1 dX4_holdRow_15 rfl (lv_at hl 0 rfl) ?_
  refine zk_get (C := RX4) (T := TX4) (N := 4) (ci := 4) Z hK G hinX4 0 rfl rfl 0 (by decide) (List.mem_of_getElem? (i := 4) rfl) rfl (v := .ref si) rfl dX4_holdRow_16 ?_
  refine lv_lconst (v := lN 0) Z.1 Z.2.1 dX4_holdRow_19 (by decide +kernel) ?_
  refine zk_cv (WF := fun (_ : Unit) => [(so, .inr (4, [.ref si, .int x, .int (nI y), .int (-1)])), (si, .inl (g 1, 60, .inr (.inl (zs_fill (fun _ => (lN 0)) It 60))))]) (wr := [(so, .inr (4, [.ref si, .int x, .int (nI y), .int (-1)]))]) ⟨rfl, rfl⟩ (zk_rs (As := [.ref si, .long (lN 0)]) (rest := []) Z ((ct_J7_fill_d0a16 l D g τ si (lN 0) 60 It (by omega)) H.size) hK hT hA G [1] rfl (by decide) gX4_holdRow_J7_fill_d0a16 rfl dvJ7_fill_d0a16 ⟨by decide, by decide⟩ rfl hl.1 rfl (Nat.le_of_ble_eq_true rfl) dX4_holdRow_20 ⟨Nat.zero_le _, Nat.zero_le _⟩) hA G [1] [0] [0, 1] rfl rfl (by decide) (by decide) (by decide) (fun _ => rfl) (fun _ H locs w_20 G => ?_)
  exact zk_retv Z hR_ hlk hK hQ G () trivial rfl dX4_holdRow_23

abbrev rm_X4_lay : Room := { frames := 0, cells := 0, slots := 0, locals := 0 }
theorem dvX4_lay : zk_dv yX4_lay RX4 2 := by decide +kernel
set_option maxRecDepth 100000 in
set_option maxHeartbeats 4000000 in
theorem ct_X4_lay (l : Launch) (D : va_G) (g : Nat → ClassId) (τ : Nat → Nat) (so : Nat) (si : Nat) (sort : Int32) (ln : Nat) (rel : Int32) (It : Nat → Int64) (k : Nat) (v : Int64) (hk : k < 60) : zk_MV l D g τ yX4_lay wsX4_lay rm_X4_lay [.ref so, .int (nI k), .long v] [(so, .inr (4, [.ref si, .int sort, .int (nI ln), .int rel])), (si, .inl (g 1, 60, .inr (.inl It)))] (fun (_ : Unit) => True) (fun (_ : Unit) => [(so, .inr (4, [.ref si, .int sort, .int (nI ln), .int rel])), (si, .inl (g 1, 60, .inr (.inl (vp_updL It k (zh_as sort v)))))]) := by
  refine zk_of (Qc := fun A => va_Qv (fun (_ : Unit) => True) (zk_B D g A (fun (_ : Unit) => [(so, .inr (4, [.ref si, .int sort, .int (nI ln), .int rel])), (si, .inl (g 1, 60, .inr (.inl (vp_updL It k (zh_as sort v)))))])) A) (cc := cX4_lay) (maxL := 4) (ret := none) (own := RX4) (by decide) rfl rfl (Nat.le_of_ble_eq_true rfl) ?_
  intro pP eE sS mM args below meth cC aA ls qQ Z hR_ hlk hnm hK hT hA hQ G hl
  have hinX4 : ∀ w ∈ u_ws RX4 TX4 4, w ∈ wsX4_lay := (fun _ h => List.mem_cons_of_mem _ (List.mem_append_right _ h))
  refine lv_aload_n Z.1 Z.2.1 dX4_lay_0 rfl (lv_at hl 0 rfl) ?_
  refine zk_get (C := RX4) (T := TX4) (N := 4) (ci := 4) Z hK G hinX4 0 rfl rfl 1 (by decide) (List.mem_of_getElem? (i := 1) rfl) rfl (v := .int sort) rfl dX4_lay_1 ?_
  by_cases c4_0 : sort = nI 0
  · subst c4_0
    refine lv_tableIn (tgt := 40) Z.1 Z.2.1 dX4_lay_4 (by decide) (by decide) (by rfl) (by decide) ?_
    refine lv_aload_n Z.1 Z.2.1 dX4_lay_40 rfl (lv_at hl 0 rfl) ?_
    refine zk_get (C := RX4) (T := TX4) (N := 4) (ci := 4) Z hK G hinX4 0 rfl rfl 0 (by decide) (List.mem_of_getElem? (i := 2) rfl) rfl (v := .ref si) rfl dX4_lay_41 ?_
    refine lv_iload_n Z.1 Z.2.1 dX4_lay_44 rfl (lv_at hl 1 rfl) ?_
    refine lv_lload_n Z.1 Z.2.1 dX4_lay_45 rfl (lv_at hl 2 rfl) ?_
    refine lv_l2i (v := v.toInt32) Z.1 Z.2.1 dX4_lay_46 rfl ?_
    refine lv_i2b (v := v.toInt32.toInt8.toInt32) Z.1 Z.2.1 dX4_lay_47 rfl ?_
    refine lv_i2l (v := v.toInt32.toInt8.toInt32.toInt64) Z.1 Z.2.1 dX4_lay_48 rfl ?_
    refine zk_last Z hK G 1 rfl (k := k) (by omega) (by decide) rfl (ws' := [(so, .inr (4, [.ref si, .int (nI 0), .int (nI ln), .int rel])), (si, .inl (g 1, 60, .inr (.inl (vp_updL It k v.toInt32.toInt8.toInt32.toInt64))))]) rfl dX4_lay_49 (fun H locs G => ?_)
    refine lv_goto (tgt := 105) Z.1 Z.2.1 dX4_lay_50 (by decide) ?_
    exact zk_retv Z hR_ hlk hK hQ G () trivial (by simp only [zh_as]; rfl) dX4_lay_105
  by_cases c4_1 : sort = nI 1
  · subst c4_1
    refine lv_tableIn (tgt := 53) Z.1 Z.2.1 dX4_lay_4 (by decide) (by decide) (by rfl) (by decide) ?_
    refine lv_aload_n Z.1 Z.2.1 dX4_lay_53 rfl (lv_at hl 0 rfl) ?_
    refine zk_get (C := RX4) (T := TX4) (N := 4) (ci := 4) Z hK G hinX4 0 rfl rfl 0 (by decide) (List.mem_of_getElem? (i := 2) rfl) rfl (v := .ref si) rfl dX4_lay_54 ?_
    refine lv_iload_n Z.1 Z.2.1 dX4_lay_57 rfl (lv_at hl 1 rfl) ?_
    refine lv_lload_n Z.1 Z.2.1 dX4_lay_58 rfl (lv_at hl 2 rfl) ?_
    refine lv_l2i (v := v.toInt32) Z.1 Z.2.1 dX4_lay_59 rfl ?_
    refine lv_i2s (v := v.toInt32.toInt16.toInt32) Z.1 Z.2.1 dX4_lay_60 rfl ?_
    refine lv_i2l (v := v.toInt32.toInt16.toInt32.toInt64) Z.1 Z.2.1 dX4_lay_61 rfl ?_
    refine zk_last Z hK G 1 rfl (k := k) (by omega) (by decide) rfl (ws' := [(so, .inr (4, [.ref si, .int (nI 1), .int (nI ln), .int rel])), (si, .inl (g 1, 60, .inr (.inl (vp_updL It k v.toInt32.toInt16.toInt32.toInt64))))]) rfl dX4_lay_62 (fun H locs G => ?_)
    refine lv_goto (tgt := 105) Z.1 Z.2.1 dX4_lay_63 (by decide) ?_
    exact zk_retv Z hR_ hlk hK hQ G () trivial (by simp only [zh_as]; rfl) dX4_lay_105
  by_cases c4_2 : sort = nI 2
  · subst c4_2
    refine lv_tableIn (tgt := 66) Z.1 Z.2.1 dX4_lay_4 (by decide) (by decide) (by rfl) (by decide) ?_
    refine lv_aload_n Z.1 Z.2.1 dX4_lay_66 rfl (lv_at hl 0 rfl) ?_
    refine zk_get (C := RX4) (T := TX4) (N := 4) (ci := 4) Z hK G hinX4 0 rfl rfl 0 (by decide) (List.mem_of_getElem? (i := 2) rfl) rfl (v := .ref si) rfl dX4_lay_67 ?_
    refine lv_iload_n Z.1 Z.2.1 dX4_lay_70 rfl (lv_at hl 1 rfl) ?_
    refine lv_lload_n Z.1 Z.2.1 dX4_lay_71 rfl (lv_at hl 2 rfl) ?_
    refine lv_l2i (v := v.toInt32) Z.1 Z.2.1 dX4_lay_72 rfl ?_
    refine lv_i2l (v := v.toInt32.toInt64) Z.1 Z.2.1 dX4_lay_73 rfl ?_
    refine zk_last Z hK G 1 rfl (k := k) (by omega) (by decide) rfl (ws' := [(so, .inr (4, [.ref si, .int (nI 2), .int (nI ln), .int rel])), (si, .inl (g 1, 60, .inr (.inl (vp_updL It k v.toInt32.toInt64))))]) rfl dX4_lay_74 (fun H locs G => ?_)
    refine lv_goto (tgt := 105) Z.1 Z.2.1 dX4_lay_75 (by decide) ?_
    exact zk_retv Z hR_ hlk hK hQ G () trivial (by simp only [zh_as]; rfl) dX4_lay_105
  by_cases c4_3 : sort = nI 3
  · subst c4_3
    refine lv_tableIn (tgt := 98) Z.1 Z.2.1 dX4_lay_4 (by decide) (by decide) (by rfl) (by decide) ?_
    refine lv_aload_n Z.1 Z.2.1 dX4_lay_98 rfl (lv_at hl 0 rfl) ?_
    refine zk_get (C := RX4) (T := TX4) (N := 4) (ci := 4) Z hK G hinX4 0 rfl rfl 0 (by decide) (List.mem_of_getElem? (i := 2) rfl) rfl (v := .ref si) rfl dX4_lay_99 ?_
    refine lv_iload_n Z.1 Z.2.1 dX4_lay_102 rfl (lv_at hl 1 rfl) ?_
    refine lv_lload_n Z.1 Z.2.1 dX4_lay_103 rfl (lv_at hl 2 rfl) ?_
    refine zk_last Z hK G 1 rfl (k := k) (by omega) (by decide) rfl (ws' := [(so, .inr (4, [.ref si, .int (nI 3), .int (nI ln), .int rel])), (si, .inl (g 1, 60, .inr (.inl (vp_updL It k v))))]) rfl dX4_lay_104 (fun H locs G => ?_)
    exact zk_retv Z hR_ hlk hK hQ G () trivial (by simp only [zh_as]; rfl) dX4_lay_105
  by_cases c4_4 : sort = nI 4
  · subst c4_4
    refine lv_tableIn (tgt := 78) Z.1 Z.2.1 dX4_lay_4 (by decide) (by decide) (by rfl) (by decide) ?_
    refine lv_aload_n Z.1 Z.2.1 dX4_lay_78 rfl (lv_at hl 0 rfl) ?_
    refine zk_get (C := RX4) (T := TX4) (N := 4) (ci := 4) Z hK G hinX4 0 rfl rfl 0 (by decide) (List.mem_of_getElem? (i := 2) rfl) rfl (v := .ref si) rfl dX4_lay_79 ?_
    refine lv_iload_n Z.1 Z.2.1 dX4_lay_82 rfl (lv_at hl 1 rfl) ?_
    refine lv_lload_n Z.1 Z.2.1 dX4_lay_83 rfl (lv_at hl 2 rfl) ?_
    refine lv_lconst (v := lN 0) Z.1 Z.2.1 dX4_lay_84 (by decide +kernel) ?_
    refine zk_lcmp Z dX4_lay_85 (z := lg_cmp v (lN 0)) rfl ?_
    refine lv_if_eq (tgt := 93) Z.1 Z.2.1 dX4_lay_86 (by decide) (fun c86 => ?_) (fun c86 => ?_)
    · have c86 : v = 0 := zs_lcz c86
      refine lv_lconst (v := lN 0) Z.1 Z.2.1 dX4_lay_93 (by decide +kernel) ?_
      refine zk_last Z hK G 1 rfl (k := k) (by omega) (by decide) rfl (ws' := [(so, .inr (4, [.ref si, .int (nI 4), .int (nI ln), .int rel])), (si, .inl (g 1, 60, .inr (.inl (vp_updL It k (lN 0)))))]) rfl dX4_lay_94 (fun H locs G => ?_)
      refine lv_goto (tgt := 105) Z.1 Z.2.1 dX4_lay_95 (by decide) ?_
      exact zk_retv Z hR_ hlk hK hQ G () trivial (by simp only [zh_as]; rw [if_neg (by decide), if_neg (by decide), if_neg (by decide), if_pos trivial, if_pos c86]) dX4_lay_105
    have c86 : ¬ v = 0 := zs_lcn c86
    refine lv_lconst (v := lN 1) Z.1 Z.2.1 dX4_lay_89 (by decide +kernel) ?_
    refine lv_goto (tgt := 94) Z.1 Z.2.1 dX4_lay_90 (by decide) ?_
    refine zk_last Z hK G 1 rfl (k := k) (by omega) (by decide) rfl (ws' := [(so, .inr (4, [.ref si, .int (nI 4), .int (nI ln), .int rel])), (si, .inl (g 1, 60, .inr (.inl (vp_updL It k (lN 1)))))]) rfl dX4_lay_94 (fun H locs G => ?_)
    refine lv_goto (tgt := 105) Z.1 Z.2.1 dX4_lay_95 (by decide) ?_
    exact zk_retv Z hR_ hlk hK hQ G () trivial (by simp only [zh_as]; rw [if_neg (by decide), if_neg (by decide), if_neg (by decide), if_pos trivial, if_neg c86]) dX4_lay_105
  have c4_0' : ¬ sort.toInt = 0 := lv_neT c4_0 (by decide)
  have c4_1' : ¬ sort.toInt = 1 := lv_neT c4_1 (by decide)
  have c4_2' : ¬ sort.toInt = 2 := lv_neT c4_2 (by decide)
  have c4_3' : ¬ sort.toInt = 3 := lv_neT c4_3 (by decide)
  have c4_4' : ¬ sort.toInt = 4 := lv_neT c4_4 (by decide)
  refine lv_tableOut (tgt := 98) Z.1 Z.2.1 dX4_lay_4 (by omega) (by decide) ?_
  refine lv_aload_n Z.1 Z.2.1 dX4_lay_98 rfl (lv_at hl 0 rfl) ?_
  refine zk_get (C := RX4) (T := TX4) (N := 4) (ci := 4) Z hK G hinX4 0 rfl rfl 0 (by decide) (List.mem_of_getElem? (i := 2) rfl) rfl (v := .ref si) rfl dX4_lay_99 ?_
  refine lv_iload_n Z.1 Z.2.1 dX4_lay_102 rfl (lv_at hl 1 rfl) ?_
  refine lv_lload_n Z.1 Z.2.1 dX4_lay_103 rfl (lv_at hl 2 rfl) ?_
  refine zk_last Z hK G 1 rfl (k := k) (by omega) (by decide) rfl (ws' := [(so, .inr (4, [.ref si, .int sort, .int (nI ln), .int rel])), (si, .inl (g 1, 60, .inr (.inl (vp_updL It k v))))]) rfl dX4_lay_104 (fun H locs G => ?_)
  exact zk_retv Z hR_ hlk hK hQ G () trivial (by simp only [zh_as]; rw [if_neg c4_0, if_neg c4_1, if_neg c4_2, if_neg c4_4]) dX4_lay_105

abbrev rm_X3_isKind : Room := { frames := 0, cells := 0, slots := 0, locals := 0 }
theorem dvX3_isKind : zk_dv yX3_isKind RX3 1 := by decide +kernel
set_option maxRecDepth 100000 in
set_option maxHeartbeats 4000000 in
theorem ct_X3_isKind (l : Launch) (D : va_G) (g : Nat → ClassId) (τ : Nat → Nat) (x : Int32)  : zk_MI l D g τ yX3_isKind wsX3_isKind rm_X3_isKind [.int x] [] (fun (r : Int32) (_ : Unit) => r = zk_b (zr_kind x)) (fun (_ : Unit) => []) := by
  refine zk_of (Qc := fun A => va_Qi (fun (r : Int32) (_ : Unit) => r = zk_b (zr_kind x)) (zk_B D g A (fun (_ : Unit) => [])) A) (cc := cX3_isKind) (maxL := 1) (ret := (some .boolean)) (own := RX3) (by decide) rfl rfl (Nat.le_of_ble_eq_true rfl) ?_
  intro pP eE sS mM args below meth cC aA ls qQ Z hR_ hlk hnm hK hT hA hQ G hl
  refine lv_iload_n Z.1 Z.2.1 dX3_isKind_0 rfl (lv_at hl 0 rfl) ?_
  refine lv_if_lt (tgt := 14) Z.1 Z.2.1 dX3_isKind_1 (by decide) (fun c1 => ?_) (fun c1 => ?_)
  · have c1 : x < 0 := c1
    refine lv_iconst (v := nI 0) Z.1 Z.2.1 dX3_isKind_14 (by decide +kernel) ?_
    refine W.eq (g2 := F0 mM 15 ls [.int (zk_b false)]) rfl ?_
    exact zk_retz Z hR_ hlk hK hQ G () (congrArg zk_b (by simp [zr_kind, c1])) rfl dX3_isKind_15
  have c1 : ¬ x < 0 := c1
  refine lv_iload_n Z.1 Z.2.1 dX3_isKind_4 rfl (lv_at hl 0 rfl) ?_
  refine lv_bipush (v := nI 8) Z.1 Z.2.1 dX3_isKind_5 (by decide +kernel) ?_
  refine lv_icmp_ge (tgt := 14) Z.1 Z.2.1 dX3_isKind_7 (by decide) (fun c7 => ?_) (fun c7 => ?_)
  · have c7 : 8 ≤ x := c7
    refine lv_iconst (v := nI 0) Z.1 Z.2.1 dX3_isKind_14 (by decide +kernel) ?_
    refine W.eq (g2 := F0 mM 15 ls [.int (zk_b false)]) rfl ?_
    exact zk_retz Z hR_ hlk hK hQ G () (congrArg zk_b (by simp [zr_kind, c1, c7])) rfl dX3_isKind_15
  have c7 : ¬ 8 ≤ x := c7
  refine lv_iconst (v := nI 1) Z.1 Z.2.1 dX3_isKind_10 (by decide +kernel) ?_
  refine lv_goto (tgt := 15) Z.1 Z.2.1 dX3_isKind_11 (by decide) ?_
  refine W.eq (g2 := F0 mM 15 ls [.int (zk_b true)]) rfl ?_
  exact zk_retz Z hR_ hlk hK hQ G () (congrArg zk_b (by simp [zr_kind, c1, c7])) rfl dX3_isKind_15

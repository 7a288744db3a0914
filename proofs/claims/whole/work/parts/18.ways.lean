abbrev rm_X6_renew : Room := { frames := 1, cells := 0, slots := 0, locals := 60 }
theorem dvX6_renew : zk_dv yX6_renew RX6 2 := by decide +kernel
set_option maxRecDepth 100000 in
set_option maxHeartbeats 4000000 in
theorem ct_X6_renew (l : Launch) (D : va_G) (g : Nat → ClassId) (τ : Nat → Nat) (a : Nat → Nat) (n : Nat) (hide : Nat) (ver : Nat) (ew : Int32) (ek : Bool) (lw : Int32) (lf : Int32) (bs : Int32) (bw : Int32) (we : Bool) (wo : Int32) (wv : Int32) (ro : Int32) (rv : Int32) (ko : Nat) (kr : Nat) (OW : Nat → Nat) (RE : Nat → Nat) (w1 : Nat) (hand : Nat) (hn : n ≤ 7) (hw : w1 < 2 ^ 21) (hh : hand ≤ 1) (hO : ∀ x, x < 7 → OW x ≤ 1000000000) : zk_MV l D g τ yX6_renew wsX6_renew rm_X6_renew [.ref (a 3), .int (nI w1), .int (nI hand)] [(a 2, .inr (5, [.ref (a 20), .ref (a 21), .ref (a 22), .int (nI n), .int (nI hide), .ref (a 1), .ref (a 23), .ref (a 24), .int (nI ver), .int ew, .int (zk_b ek)])), (a 3, .inr (6, [.int lw, .int lf, .int bs, .int bw, .ref (a 2), .int (zk_b we), .int wo, .int wv, .int ro, .int rv, .ref (a 30), .ref (a 31), .ref ko, .ref kr])), (ko, .inl (g 0, 7, .inl (fun i => nI (OW i)))), (kr, .inl (g 0, 7, .inl (fun i => nI (RE i))))] (fun (O1 : Nat → Nat) => ∀ x, x < 7 → O1 x = zv_rn OW hand w1 OW (n * (n - 1) / 2) x) (fun (O1 : Nat → Nat) => [(a 2, .inr (5, [.ref (a 20), .ref (a 21), .ref (a 22), .int (nI n), .int (nI hide), .ref (a 1), .ref (a 23), .ref (a 24), .int (nI ver), .int ew, .int (zk_b ek)])), (a 3, .inr (6, [.int lw, .int lf, .int bs, .int bw, .ref (a 2), .int (zk_b we), .int wo, .int wv, .int ro, .int rv, .ref (a 30), .ref (a 31), .ref kr, .ref ko])), (kr, .inl (g 0, 7, .inl (fun i => nI (O1 i)))), (ko, .inl (g 0, 7, .inl (fun i => nI (OW i))))]) := by
  refine zk_of (Qc := fun A => va_Qv (fun (O1 : Nat → Nat) => ∀ x, x < 7 → O1 x = zv_rn OW hand w1 OW (n * (n - 1) / 2) x) (zk_B D g A (fun (O1 : Nat → Nat) => [(a 2, .inr (5, [.ref (a 20), .ref (a 21), .ref (a 22), .int (nI n), .int (nI hide), .ref (a 1), .ref (a 23), .ref (a 24), .int (nI ver), .int ew, .int (zk_b ek)])), (a 3, .inr (6, [.int lw, .int lf, .int bs, .int bw, .ref (a 2), .int (zk_b we), .int wo, .int wv, .int ro, .int rv, .ref (a 30), .ref (a 31), .ref kr, .ref ko])), (kr, .inl (g 0, 7, .inl (fun i => nI (O1 i)))), (ko, .inl (g 0, 7, .inl (fun i => nI (OW i))))])) A) (cc := cX6_renew) (maxL := 7) (ret := none) (own := RX6) (by decide) rfl rfl (Nat.le_of_ble_eq_true rfl) ?_
  intro pP eE sS mM args below meth cC aA ls qQ Z hR_ hlk hnm hK hT hA hQ G hl
  have hinX6 : ∀ w ∈ u_ws RX6 TX6 14, w ∈ wsX6_renew := (fun _ h => List.mem_cons_of_mem _ (List.mem_append_left _ (List.mem_append_right _ h)))
  have h21 := zw_le21 hn
  refine lv_aload_n Z.1 Z.2.1 dX6_renew_0 rfl (lv_at hl 0 rfl) ?_
  refine zk_get (C := RX6) (T := TX6) (N := 14) (ci := 6) Z hK G hinX6 1 rfl rfl 12 (by decide) (List.mem_of_getElem? (i := 1) rfl) rfl (v := .ref ko) rfl dX6_renew_1 ?_
  refine lv_iconst (v := nI 0) Z.1 Z.2.1 dX6_renew_4 (by decide +kernel) ?_
  refine lv_aload_n Z.1 Z.2.1 dX6_renew_5 rfl (lv_at hl 0 rfl) ?_
  refine zk_get (C := RX6) (T := TX6) (N := 14) (ci := 6) Z hK G hinX6 1 rfl rfl 13 (by decide) (List.mem_of_getElem? (i := 2) rfl) rfl (v := .ref kr) rfl dX6_renew_6 ?_
  refine lv_iconst (v := nI 0) Z.1 Z.2.1 dX6_renew_9 (by decide +kernel) ?_
  refine lv_bipush (v := nI 7) Z.1 Z.2.1 dX6_renew_10 (by decide +kernel) ?_
  refine zk_copyi Z hl.1 (List.mem_of_getElem? (i := 3) rfl) (List.mem_of_getElem? (i := 4) rfl) (List.mem_of_getElem? (i := 5) rfl) (List.mem_of_getElem? (i := 6) rfl) hK G 2 3 rfl rfl (sp := 0) (dp := 0) (n := 7) (by omega) (by omega) (by decide) (by decide) (by decide) (by decide) (zs_cpy_n _ _ _) (ws' := [(a 2, .inr (5, [.ref (a 20), .ref (a 21), .ref (a 22), .int (nI n), .int (nI hide), .ref (a 1), .ref (a 23), .ref (a 24), .int (nI ver), .int ew, .int (zk_b ek)])), (a 3, .inr (6, [.int lw, .int lf, .int bs, .int bw, .ref (a 2), .int (zk_b we), .int wo, .int wv, .int ro, .int rv, .ref (a 30), .ref (a 31), .ref ko, .ref kr])), (ko, .inl (g 0, 7, .inl (fun i => nI (OW i)))), (kr, .inl (g 0, 7, .inl (fun i => nI ((zs_fill OW RE 7) i))))]) rfl dX6_renew_12 (fun H locs G => ?_)
  refine lv_aload_n Z.1 Z.2.1 dX6_renew_15 rfl (lv_at hl 0 rfl) ?_
  refine zk_get (C := RX6) (T := TX6) (N := 14) (ci := 6) Z hK G hinX6 1 rfl rfl 4 (by decide) (List.mem_of_getElem? (i := 7) rfl) rfl (v := .ref (a 2)) rfl dX6_renew_16 ?_
  refine zk_ci (WF := fun (_ : Unit) => [(a 2, .inr (5, [.ref (a 20), .ref (a 21), .ref (a 22), .int (nI n), .int (nI hide), .ref (a 1), .ref (a 23), .ref (a 24), .int (nI ver), .int ew, .int (zk_b ek)])), (a 3, .inr (6, [.int lw, .int lf, .int bs, .int bw, .ref (a 2), .int (zk_b we), .int wo, .int wv, .int ro, .int rv, .ref (a 30), .ref (a 31), .ref ko, .ref kr])), (ko, .inl (g 0, 7, .inl (fun i => nI (OW i)))), (kr, .inl (g 0, 7, .inl (fun i => nI ((zs_fill OW RE 7) i))))]) (wr := [(a 3, .inr (6, [.int lw, .int lf, .int bs, .int bw, .ref (a 2), .int (zk_b we), .int wo, .int wv, .int ro, .int rv, .ref (a 30), .ref (a 31), .ref ko, .ref kr])), (ko, .inl (g 0, 7, .inl (fun i => nI (OW i)))), (kr, .inl (g 0, 7, .inl (fun i => nI ((zs_fill OW RE 7) i))))]) ⟨rfl, rfl⟩ (zk_rv (As := []) (rest := []) (q0 := 0) (ci := 5) Z ((ct_X5_pairs l D g τ a n hide ver ew ek (by omega)) H.size) hK hT hA G [0] rfl (by decide) rfl rfl gX6_renew_X5_pairs rfl dvX5_pairs ⟨by decide, by decide⟩ rfl hl.1 rfl (Nat.le_of_ble_eq_true rfl) dX6_renew_19 ⟨Nat.zero_le _, Nat.zero_le _⟩) hA G [0] [1, 2, 3] [3, 0, 1, 2] rfl rfl (by decide) (by decide) (by decide) (fun _ => rfl) (fun r_19 _ H locs w_19 G => ?_)
  obtain rfl : r_19 = nI (n * (n - 1) / 2) := w_19
  refine lv_istore_n (lv' := [(3, .int (nI (n * (n - 1) / 2))), (0, .ref (a 3)), (1, .int (nI w1)), (2, .int (nI hand))]) Z.1 Z.2.1 dX6_renew_22 rfl hl (by decide) rfl (fun ls hl => ?_)
  have G : zk_G D aA [(a 2, .inr (5, [.ref (a 20), .ref (a 21), .ref (a 22), .int (nI n), .int (nI hide), .ref (a 1), .ref (a 23), .ref (a 24), .int (nI ver), .int ew, .int (zk_b ek)])), (a 3, .inr (6, [.int lw, .int lf, .int bs, .int bw, .ref (a 2), .int (zk_b we), .int wo, .int wv, .int ro, .int rv, .ref (a 30), .ref (a 31), .ref ko, .ref kr])), (ko, .inl (g 0, 7, .inl (fun i => nI (OW i)))), (kr, .inl (g 0, 7, .inl (fun i => nI (zv_rn OW hand w1 (zs_fill OW RE 7) 0 i))))] sS H locs := G
  refine lv_iconst (v := nI 0) Z.1 Z.2.1 dX6_renew_23 (by decide +kernel) ?_
  refine lv_istore (lv' := [(4, .int (nI 0)), (3, .int (nI (n * (n - 1) / 2))), (0, .ref (a 3)), (1, .int (nI w1)), (2, .int (nI hand))]) Z.1 Z.2.1 dX6_renew_24 hl (by decide) rfl (fun ls hl => ?_)
  have L26 : ∀ (nN : Nat) (k : Nat), n * (n - 1) / 2 - k < nN → (k ≤ n * (n - 1) / 2) → ∀ (H : Heap) (locs : List Loc) (ls : Array Slot), zk_G D aA [(a 2, .inr (5, [.ref (a 20), .ref (a 21), .ref (a 22), .int (nI n), .int (nI hide), .ref (a 1), .ref (a 23), .ref (a 24), .int (nI ver), .int ew, .int (zk_b ek)])), (a 3, .inr (6, [.int lw, .int lf, .int bs, .int bw, .ref (a 2), .int (zk_b we), .int wo, .int wv, .int ro, .int rv, .ref (a 30), .ref (a 31), .ref ko, .ref kr])), (ko, .inl (g 0, 7, .inl (fun i => nI (OW i)))), (kr, .inl (g 0, 7, .inl (fun i => nI (zv_rn OW hand w1 (zs_fill OW RE 7) k i))))] sS H locs → lv_has ls 7 [(0, .ref (a 3)), (1, .int (nI w1)), (2, .int (nI hand)), (3, .int (nI (n * (n - 1) / 2))), (4, .int (nI k))] → W pP l eE rm_X6_renew sS mM args below meth cC H locs 0 0 qQ (F0 mM 26 ls []) := by
    intro nN
    induction nN with
    | zero => intros; omega
    | succ nN ih26 =>
      intro k hμ h1 H locs ls G hl
      have hm : w1 / 2 ^ k % 2 < 2 := Nat.mod_lt _ (by decide)
      have hle := zk_les_lt k
      have hge := zk_gre_lt k
      have h21 := zw_le21 hn
      have b1 : zv_rn OW hand w1 (zs_fill OW RE 7) k (zk_les k) ≤ (zs_fill OW RE 7) (zk_les k) := zv_rn_le _ _ _ _ _ _
      have b2 : zv_rn OW hand w1 (zs_fill OW RE 7) k (zk_gre k) ≤ (zs_fill OW RE 7) (zk_gre k) := zv_rn_le _ _ _ _ _ _
      have b3 : (zs_fill OW RE 7) (zk_les k) = OW (zk_les k) := if_pos (by omega)
      have b4 : (zs_fill OW RE 7) (zk_gre k) = OW (zk_gre k) := if_pos (by omega)
      have b5 := hO (zk_les k) (by omega)
      have b6 := hO (zk_gre k) (by omega)
      refine lv_iload Z.1 Z.2.1 dX6_renew_26 (lv_at hl 4 rfl) ?_
      refine lv_iload_n Z.1 Z.2.1 dX6_renew_28 rfl (lv_at hl 3 rfl) ?_
      refine lv_icmp_ge (tgt := 115) Z.1 Z.2.1 dX6_renew_29 (by decide) (fun c29 => ?_) (fun c29 => ?_)
      · have c29 : n * (n - 1) / 2 ≤ k := zk_le (by omega) (by omega) c29
        refine lv_aload_n Z.1 Z.2.1 dX6_renew_115 rfl (lv_at hl 0 rfl) ?_
        refine zk_get (C := RX6) (T := TX6) (N := 14) (ci := 6) Z hK G hinX6 1 rfl rfl 12 (by decide) (List.mem_of_getElem? (i := 1) rfl) rfl (v := .ref ko) rfl dX6_renew_116 ?_
        refine lv_astore (lv' := [(4, .ref ko), (0, .ref (a 3)), (1, .int (nI w1)), (2, .int (nI hand)), (3, .int (nI (n * (n - 1) / 2)))]) Z.1 Z.2.1 dX6_renew_119 hl (by decide) rfl (fun ls hl => ?_)
        refine lv_aload_n Z.1 Z.2.1 dX6_renew_121 rfl (lv_at hl 1 rfl) ?_
        refine lv_aload_n Z.1 Z.2.1 dX6_renew_122 rfl (lv_at hl 1 rfl) ?_
        refine zk_get (C := RX6) (T := TX6) (N := 14) (ci := 6) Z hK G hinX6 1 rfl rfl 13 (by decide) (List.mem_of_getElem? (i := 2) rfl) rfl (v := .ref kr) rfl dX6_renew_123 ?_
        refine zk_put tyX6 tyX6_ok nmX6 (C := RX6) (T := TX6) (N := 14) (ci := 6) Z hK G hinX6 1 rfl rfl 12 (by decide) (List.mem_of_getElem? (i := 1) rfl) rfl rfl rfl rfl (Nat.le_of_ble_eq_true rfl) (ws' := [(a 2, .inr (5, [.ref (a 20), .ref (a 21), .ref (a 22), .int (nI n), .int (nI hide), .ref (a 1), .ref (a 23), .ref (a 24), .int (nI ver), .int ew, .int (zk_b ek)])), (a 3, .inr (6, [.int lw, .int lf, .int bs, .int bw, .ref (a 2), .int (zk_b we), .int wo, .int wv, .int ro, .int rv, .ref (a 30), .ref (a 31), .ref kr, .ref kr])), (ko, .inl (g 0, 7, .inl (fun i => nI (OW i)))), (kr, .inl (g 0, 7, .inl (fun i => nI (zv_rn OW hand w1 (zs_fill OW RE 7) k i))))]) rfl dX6_renew_126 (fun H locs G => ?_)
        refine lv_aload_n Z.1 Z.2.1 dX6_renew_129 rfl (lv_at hl 1 rfl) ?_
        refine lv_aload Z.1 Z.2.1 dX6_renew_130 (lv_at hl 0 rfl) ?_
        refine zk_put tyX6 tyX6_ok nmX6 (C := RX6) (T := TX6) (N := 14) (ci := 6) Z hK G hinX6 1 rfl rfl 13 (by decide) (List.mem_of_getElem? (i := 2) rfl) rfl rfl rfl rfl (Nat.le_of_ble_eq_true rfl) (ws' := [(a 2, .inr (5, [.ref (a 20), .ref (a 21), .ref (a 22), .int (nI n), .int (nI hide), .ref (a 1), .ref (a 23), .ref (a 24), .int (nI ver), .int ew, .int (zk_b ek)])), (a 3, .inr (6, [.int lw, .int lf, .int bs, .int bw, .ref (a 2), .int (zk_b we), .int wo, .int wv, .int ro, .int rv, .ref (a 30), .ref (a 31), .ref kr, .ref ko])), (ko, .inl (g 0, 7, .inl (fun i => nI (OW i)))), (kr, .inl (g 0, 7, .inl (fun i => nI (zv_rn OW hand w1 (zs_fill OW RE 7) k i))))]) rfl dX6_renew_132 (fun H locs G => ?_)
        have G : zk_G D aA [(a 2, .inr (5, [.ref (a 20), .ref (a 21), .ref (a 22), .int (nI n), .int (nI hide), .ref (a 1), .ref (a 23), .ref (a 24), .int (nI ver), .int ew, .int (zk_b ek)])), (a 3, .inr (6, [.int lw, .int lf, .int bs, .int bw, .ref (a 2), .int (zk_b we), .int wo, .int wv, .int ro, .int rv, .ref (a 30), .ref (a 31), .ref kr, .ref ko])), (kr, .inl (g 0, 7, .inl (fun i => nI (zv_rn OW hand w1 (zs_fill OW RE 7) k i)))), (ko, .inl (g 0, 7, .inl (fun i => nI (OW i))))] sS H locs := zk_perm G [0, 1, 3, 2] rfl (by decide)
        exact zk_retv Z hR_ hlk hK hQ G (zv_rn OW hand w1 (zs_fill OW RE 7) k) (fun x hx => by rw [show k = n * (n - 1) / 2 by omega]; exact zv_rn_cg (fun _ _ => rfl) (fun i hi => if_pos hi) _ x hx) rfl dX6_renew_135
      have c29 : k < n * (n - 1) / 2 := zk_nle (by omega) (by omega) c29
      refine lv_iload_n Z.1 Z.2.1 dX6_renew_32 rfl (lv_at hl 1 rfl) ?_
      refine lv_iload Z.1 Z.2.1 dX6_renew_33 (lv_at hl 4 rfl) ?_
      refine lv_iushr (v := nI (w1 / 2 ^ k)) Z.1 Z.2.1 dX6_renew_35 (zw_ush (by omega) (by omega)) ?_
      refine lv_iconst (v := nI 1) Z.1 Z.2.1 dX6_renew_36 (by decide +kernel) ?_
      refine zk_iand Z dX6_renew_37 (z := nI (w1 / 2 ^ k % 2)) (zw_a1 _) ?_
      refine lv_if_eq (tgt := 109) Z.1 Z.2.1 dX6_renew_38 (by decide) (fun c38 => ?_) (fun c38 => ?_)
      · have c38 : w1 / 2 ^ k % 2 = 0 := zk_eq (by omega) (by omega) c38
        have G : zk_G D aA [(a 2, .inr (5, [.ref (a 20), .ref (a 21), .ref (a 22), .int (nI n), .int (nI hide), .ref (a 1), .ref (a 23), .ref (a 24), .int (nI ver), .int ew, .int (zk_b ek)])), (a 3, .inr (6, [.int lw, .int lf, .int bs, .int bw, .ref (a 2), .int (zk_b we), .int wo, .int wv, .int ro, .int rv, .ref (a 30), .ref (a 31), .ref ko, .ref kr])), (ko, .inl (g 0, 7, .inl (fun i => nI (OW i)))), (kr, .inl (g 0, 7, .inl (fun i => nI (zv_rn OW hand w1 (zs_fill OW RE 7) (k + 1) i))))] sS H locs := (by rw [zv_rn_n c38]; exact G)
        refine lv_iinc (v := nI (k + 1)) (lv' := [(4, .int (nI (k + 1))), (0, .ref (a 3)), (1, .int (nI w1)), (2, .int (nI hand)), (3, .int (nI (n * (n - 1) / 2)))]) Z.1 Z.2.1 dX6_renew_109 hl (k := 4) rfl (zk_inc k 1) (by decide) rfl (fun ls hl => ?_)
        refine lv_goto (tgt := 26) Z.1 Z.2.1 dX6_renew_112 (by decide) ?_
        exact ih26 (k + 1) (by omega) (by omega) _ _ _ G (lv_sub hl [1, 2, 3, 4, 0] rfl)
      have c38 : w1 / 2 ^ k % 2 ≠ 0 := zk_neq (by omega) (by omega) c38
      refine zk_gets Z G hT.1 (List.mem_of_getElem? (i := 8) rfl) dX6_renew_41 ?_
      refine lv_iload Z.1 Z.2.1 dX6_renew_44 (lv_at hl 4 rfl) ?_
      refine zk_ti Z G hT.1 (k := k) (by omega) (by decide) (v := .int (nI (zk_les k))) rfl dX6_renew_46 ?_
      refine lv_istore (lv' := [(5, .int (nI (zk_les k))), (0, .ref (a 3)), (1, .int (nI w1)), (2, .int (nI hand)), (3, .int (nI (n * (n - 1) / 2))), (4, .int (nI k))]) Z.1 Z.2.1 dX6_renew_47 hl (by decide) rfl (fun ls hl => ?_)
      refine zk_gets Z G hT.2.1 (List.mem_of_getElem? (i := 9) rfl) dX6_renew_49 ?_
      refine lv_iload Z.1 Z.2.1 dX6_renew_52 (lv_at hl 5 rfl) ?_
      refine zk_ti Z G hT.2.1 (k := k) (by omega) (by decide) (v := .int (nI (zk_gre k))) rfl dX6_renew_54 ?_
      refine lv_istore (lv' := [(6, .int (nI (zk_gre k))), (5, .int (nI (zk_les k))), (0, .ref (a 3)), (1, .int (nI w1)), (2, .int (nI hand)), (3, .int (nI (n * (n - 1) / 2))), (4, .int (nI k))]) Z.1 Z.2.1 dX6_renew_55 hl (by decide) rfl (fun ls hl => ?_)
      have b7 : zs_up (zv_rn OW hand w1 (zs_fill OW RE 7) k) (zk_les k) (min (zv_rn OW hand w1 (zs_fill OW RE 7) k (zk_les k)) (OW (zk_gre k) + hand)) (zk_gre k) ≤ 1000000000 := by simp only [zs_up]; split <;> omega
      refine lv_aload_n Z.1 Z.2.1 dX6_renew_57 rfl (lv_at hl 2 rfl) ?_
      refine zk_get (C := RX6) (T := TX6) (N := 14) (ci := 6) Z hK G hinX6 1 rfl rfl 13 (by decide) (List.mem_of_getElem? (i := 2) rfl) rfl (v := .ref kr) rfl dX6_renew_58 ?_
      refine lv_iload Z.1 Z.2.1 dX6_renew_61 (lv_at hl 1 rfl) ?_
      refine lv_aload_n Z.1 Z.2.1 dX6_renew_63 rfl (lv_at hl 2 rfl) ?_
      refine zk_get (C := RX6) (T := TX6) (N := 14) (ci := 6) Z hK G hinX6 1 rfl rfl 13 (by decide) (List.mem_of_getElem? (i := 2) rfl) rfl (v := .ref kr) rfl dX6_renew_64 ?_
      refine lv_iload Z.1 Z.2.1 dX6_renew_67 (lv_at hl 1 rfl) ?_
      refine zk_iald Z hK G 3 rfl (k := zk_les k) (by omega) (by decide) (v := nI (zv_rn OW hand w1 (zs_fill OW RE 7) k (zk_les k))) rfl dX6_renew_69 ?_
      refine lv_aload_n Z.1 Z.2.1 dX6_renew_70 rfl (lv_at hl 2 rfl) ?_
      refine zk_get (C := RX6) (T := TX6) (N := 14) (ci := 6) Z hK G hinX6 1 rfl rfl 12 (by decide) (List.mem_of_getElem? (i := 1) rfl) rfl (v := .ref ko) rfl dX6_renew_71 ?_
      refine lv_iload Z.1 Z.2.1 dX6_renew_74 (lv_at hl 0 rfl) ?_
      refine zk_iald Z hK G 2 rfl (k := zk_gre k) (by omega) (by decide) (v := nI (OW (zk_gre k))) rfl dX6_renew_76 ?_
      refine lv_iload_n Z.1 Z.2.1 dX6_renew_77 rfl (lv_at hl 4 rfl) ?_
      refine zk_iadd Z dX6_renew_78 (z := nI (OW (zk_gre k) + hand)) (nI_add _ _) ?_
      refine zk_min Z hl.1 (List.mem_of_getElem? (i := 10) rfl) (List.mem_of_getElem? (i := 11) rfl) (List.mem_of_getElem? (i := 12) rfl) (List.mem_of_getElem? (i := 13) rfl) (Nat.le_of_ble_eq_true rfl) (Nat.le_of_ble_eq_true rfl) (Nat.zero_le _) (Nat.zero_le _) (z := nI (min (zv_rn OW hand w1 (zs_fill OW RE 7) k (zk_les k)) (OW (zk_gre k) + hand))) (zk_nmin (by omega) (by omega)) dX6_renew_79 ?_
      refine zk_iast Z hK G 3 rfl (k := zk_les k) (by omega) (by decide) (zs_up_n _ _ _) (ws' := [(a 2, .inr (5, [.ref (a 20), .ref (a 21), .ref (a 22), .int (nI n), .int (nI hide), .ref (a 1), .ref (a 23), .ref (a 24), .int (nI ver), .int ew, .int (zk_b ek)])), (a 3, .inr (6, [.int lw, .int lf, .int bs, .int bw, .ref (a 2), .int (zk_b we), .int wo, .int wv, .int ro, .int rv, .ref (a 30), .ref (a 31), .ref ko, .ref kr])), (ko, .inl (g 0, 7, .inl (fun i => nI (OW i)))), (kr, .inl (g 0, 7, .inl (fun i => nI (zs_up (zv_rn OW hand w1 (zs_fill OW RE 7) k) (zk_les k) (min (zv_rn OW hand w1 (zs_fill OW RE 7) k (zk_les k)) (OW (zk_gre k) + hand)) i))))]) rfl dX6_renew_82 (fun H locs G => ?_)
      refine lv_aload_n Z.1 Z.2.1 dX6_renew_83 rfl (lv_at hl 2 rfl) ?_
      refine zk_get (C := RX6) (T := TX6) (N := 14) (ci := 6) Z hK G hinX6 1 rfl rfl 13 (by decide) (List.mem_of_getElem? (i := 2) rfl) rfl (v := .ref kr) rfl dX6_renew_84 ?_
      refine lv_iload Z.1 Z.2.1 dX6_renew_87 (lv_at hl 0 rfl) ?_
      refine lv_aload_n Z.1 Z.2.1 dX6_renew_89 rfl (lv_at hl 2 rfl) ?_
      refine zk_get (C := RX6) (T := TX6) (N := 14) (ci := 6) Z hK G hinX6 1 rfl rfl 13 (by decide) (List.mem_of_getElem? (i := 2) rfl) rfl (v := .ref kr) rfl dX6_renew_90 ?_
      refine lv_iload Z.1 Z.2.1 dX6_renew_93 (lv_at hl 0 rfl) ?_
      refine zk_iald Z hK G 3 rfl (k := zk_gre k) (by omega) (by decide) (v := nI (zs_up (zv_rn OW hand w1 (zs_fill OW RE 7) k) (zk_les k) (min (zv_rn OW hand w1 (zs_fill OW RE 7) k (zk_les k)) (OW (zk_gre k) + hand)) (zk_gre k))) rfl dX6_renew_95 ?_
      refine lv_aload_n Z.1 Z.2.1 dX6_renew_96 rfl (lv_at hl 2 rfl) ?_
      refine zk_get (C := RX6) (T := TX6) (N := 14) (ci := 6) Z hK G hinX6 1 rfl rfl 12 (by decide) (List.mem_of_getElem? (i := 1) rfl) rfl (v := .ref ko) rfl dX6_renew_97 ?_
      refine lv_iload Z.1 Z.2.1 dX6_renew_100 (lv_at hl 1 rfl) ?_
      refine zk_iald Z hK G 2 rfl (k := zk_les k) (by omega) (by decide) (v := nI (OW (zk_les k))) rfl dX6_renew_102 ?_
      refine lv_iload_n Z.1 Z.2.1 dX6_renew_103 rfl (lv_at hl 4 rfl) ?_
      refine zk_iadd Z dX6_renew_104 (z := nI (OW (zk_les k) + hand)) (nI_add _ _) ?_
      refine zk_min Z hl.1 (List.mem_of_getElem? (i := 10) rfl) (List.mem_of_getElem? (i := 11) rfl) (List.mem_of_getElem? (i := 12) rfl) (List.mem_of_getElem? (i := 13) rfl) (Nat.le_of_ble_eq_true rfl) (Nat.le_of_ble_eq_true rfl) (Nat.zero_le _) (Nat.zero_le _) (z := nI (min (zs_up (zv_rn OW hand w1 (zs_fill OW RE 7) k) (zk_les k) (min (zv_rn OW hand w1 (zs_fill OW RE 7) k (zk_les k)) (OW (zk_gre k) + hand)) (zk_gre k)) (OW (zk_les k) + hand))) (zk_nmin (by omega) (by omega)) dX6_renew_105 ?_
      refine zk_iast Z hK G 3 rfl (k := zk_gre k) (by omega) (by decide) (zs_up_n _ _ _) (ws' := [(a 2, .inr (5, [.ref (a 20), .ref (a 21), .ref (a 22), .int (nI n), .int (nI hide), .ref (a 1), .ref (a 23), .ref (a 24), .int (nI ver), .int ew, .int (zk_b ek)])), (a 3, .inr (6, [.int lw, .int lf, .int bs, .int bw, .ref (a 2), .int (zk_b we), .int wo, .int wv, .int ro, .int rv, .ref (a 30), .ref (a 31), .ref ko, .ref kr])), (ko, .inl (g 0, 7, .inl (fun i => nI (OW i)))), (kr, .inl (g 0, 7, .inl (fun i => nI (zs_up (zs_up (zv_rn OW hand w1 (zs_fill OW RE 7) k) (zk_les k) (min (zv_rn OW hand w1 (zs_fill OW RE 7) k (zk_les k)) (OW (zk_gre k) + hand))) (zk_gre k) (min (zs_up (zv_rn OW hand w1 (zs_fill OW RE 7) k) (zk_les k) (min (zv_rn OW hand w1 (zs_fill OW RE 7) k (zk_les k)) (OW (zk_gre k) + hand)) (zk_gre k)) (OW (zk_les k) + hand)) i))))]) rfl dX6_renew_108 (fun H locs G => ?_)
      have G : zk_G D aA [(a 2, .inr (5, [.ref (a 20), .ref (a 21), .ref (a 22), .int (nI n), .int (nI hide), .ref (a 1), .ref (a 23), .ref (a 24), .int (nI ver), .int ew, .int (zk_b ek)])), (a 3, .inr (6, [.int lw, .int lf, .int bs, .int bw, .ref (a 2), .int (zk_b we), .int wo, .int wv, .int ro, .int rv, .ref (a 30), .ref (a 31), .ref ko, .ref kr])), (ko, .inl (g 0, 7, .inl (fun i => nI (OW i)))), (kr, .inl (g 0, 7, .inl (fun i => nI (zv_rn OW hand w1 (zs_fill OW RE 7) (k + 1) i))))] sS H locs := (by rw [zv_rn_y c38]; exact G)
      refine lv_iinc (v := nI (k + 1)) (lv' := [(4, .int (nI (k + 1))), (6, .int (nI (zk_gre k))), (5, .int (nI (zk_les k))), (0, .ref (a 3)), (1, .int (nI w1)), (2, .int (nI hand)), (3, .int (nI (n * (n - 1) / 2)))]) Z.1 Z.2.1 dX6_renew_109 hl (k := 6) rfl (zk_inc k 1) (by decide) rfl (fun ls hl => ?_)
      refine lv_goto (tgt := 26) Z.1 Z.2.1 dX6_renew_112 (by decide) ?_
      exact ih26 (k + 1) (by omega) (by omega) _ _ _ G (lv_sub hl [3, 4, 5, 6, 0] rfl)
  exact L26 _ 0 (Nat.lt_succ_self _) (by omega) _ _ _ G (lv_sub hl [2, 3, 4, 1, 0] rfl)

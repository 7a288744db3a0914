abbrev rm_X5_forgetAll : Room := { frames := 1, cells := 0, slots := 0, locals := 23 }
theorem dvX5_forgetAll : zk_dv yX5_forgetAll RX5 0 := by decide +kernel
set_option maxRecDepth 100000 in
set_option maxHeartbeats 4000000 in
theorem ct_X5_forgetAll (l : Launch) (D : va_G) (g : Nat → ClassId) (τ : Nat → Nat) (a : Nat → Nat) (n : Nat) (hide : Nat) (ver : Nat) (ew : Int32) (ek : Bool) (T : Nat → Int32)  : zk_MV l D g τ yX5_forgetAll wsX5_forgetAll rm_X5_forgetAll [.ref (a 2)] [(a 2, .inr (5, [.ref (a 20), .ref (a 21), .ref (a 22), .int (nI n), .int (nI hide), .ref (a 1), .ref (a 23), .ref (a 24), .int (nI ver), .int ew, .int (zk_b ek)])), (a 23, .inl (g 2, 3024, .inl T))] (fun (_ : Unit) => True) (fun (_ : Unit) => [(a 2, .inr (5, [.ref (a 20), .ref (a 21), .ref (a 22), .int (nI n), .int (nI hide), .ref (a 1), .ref (a 23), .ref (a 24), .int (nI (ver + 1)), .int ew, .int (zk_b false)])), (a 23, .inl (g 2, 3024, .inl (zs_fill (fun _ => vp_nar .byte (nI 0)) T 3024)))]) := by
  refine zk_of (Qc := fun A => va_Qv (fun (_ : Unit) => True) (zk_B D g A (fun (_ : Unit) => [(a 2, .inr (5, [.ref (a 20), .ref (a 21), .ref (a 22), .int (nI n), .int (nI hide), .ref (a 1), .ref (a 23), .ref (a 24), .int (nI (ver + 1)), .int ew, .int (zk_b false)])), (a 23, .inl (g 2, 3024, .inl (zs_fill (fun _ => vp_nar .byte (nI 0)) T 3024)))])) A) (cc := cX5_forgetAll) (maxL := 1) (ret := none) (own := RX5) (by decide) rfl rfl (Nat.le_of_ble_eq_true rfl) ?_
  intro pP eE sS mM args below meth cC aA ls qQ Z hR_ hlk hnm hK hT hA hQ G hl
  have hinX5 : ∀ w ∈ u_ws RX5 TX5 11, w ∈ wsX5_forgetAll := (fun _ h => List.mem_cons_of_mem _ (List.mem_append_right _ h))
  refine lv_aload_n Z.1 Z.2.1 dX5_forgetAll_0 rfl (lv_at hl 0 rfl) ?_
  refine zk_get (C := RX5) (T := TX5) (N := 11) (ci := 5) Z hK G hinX5 0 rfl rfl 6 (by decide) (List.mem_of_getElem? (i := 1) rfl) rfl (v := .ref (a 23)) rfl dX5_forgetAll_1 ?_
  refine lv_iconst (v := nI 0) Z.1 Z.2.1 dX5_forgetAll_4 (by decide +kernel) ?_
  refine zk_cv (WF := fun (_ : Unit) => [(a 2, .inr (5, [.ref (a 20), .ref (a 21), .ref (a 22), .int (nI n), .int (nI hide), .ref (a 1), .ref (a 23), .ref (a 24), .int (nI ver), .int ew, .int (zk_b ek)])), (a 23, .inl (g 2, 3024, .inl (zs_fill (fun _ => vp_nar .byte (nI 0)) T 3024)))]) (wr := [(a 2, .inr (5, [.ref (a 20), .ref (a 21), .ref (a 22), .int (nI n), .int (nI hide), .ref (a 1), .ref (a 23), .ref (a 24), .int (nI ver), .int ew, .int (zk_b ek)]))]) ⟨rfl, rfl⟩ (zk_rs (As := [.ref (a 23), .int (nI 0)]) (rest := []) Z ((ct_J7_fill_031fb l D g τ (a 23) (nI 0) 3024 T (by decide)) sS.heap.size) hK hT hA G [1] rfl (by decide) gX5_forgetAll_J7_fill_031fb rfl dvJ7_fill_031fb ⟨by decide, by decide⟩ rfl hl.1 rfl (Nat.le_of_ble_eq_true rfl) dX5_forgetAll_5 ⟨Nat.zero_le _, Nat.zero_le _⟩) hA G [1] [0] [0, 1] rfl rfl (by decide) (by decide) (by decide) (fun _ => rfl) (fun _ H locs w_5 G => ?_)
  refine lv_aload_n Z.1 Z.2.1 dX5_forgetAll_8 rfl (lv_at hl 0 rfl) ?_
  refine lv_iconst (v := nI 0) Z.1 Z.2.1 dX5_forgetAll_9 (by decide +kernel) ?_
  refine W.eq (g2 := F0 mM 10 ls [.int (zk_b false), .ref (a 2)]) rfl ?_
  refine zk_put tyX5 tyX5_ok nmX5 (C := RX5) (T := TX5) (N := 11) (ci := 5) Z hK G hinX5 0 rfl rfl 10 (by decide) (List.mem_of_getElem? (i := 2) rfl) rfl rfl zk_bnar zk_bfit (Nat.le_of_ble_eq_true rfl) (ws' := [(a 2, .inr (5, [.ref (a 20), .ref (a 21), .ref (a 22), .int (nI n), .int (nI hide), .ref (a 1), .ref (a 23), .ref (a 24), .int (nI ver), .int ew, .int (zk_b false)])), (a 23, .inl (g 2, 3024, .inl (zs_fill (fun _ => vp_nar .byte (nI 0)) T 3024)))]) rfl dX5_forgetAll_10 (fun H locs G => ?_)
  refine lv_aload_n Z.1 Z.2.1 dX5_forgetAll_13 rfl (lv_at hl 0 rfl) ?_
  refine lv_dup Z.1 Z.2.1 dX5_forgetAll_14 rfl ?_
  refine zk_get (C := RX5) (T := TX5) (N := 11) (ci := 5) Z hK G hinX5 0 rfl rfl 8 (by decide) (List.mem_of_getElem? (i := 3) rfl) rfl (v := .int (nI ver)) rfl dX5_forgetAll_15 ?_
  refine lv_iconst (v := nI 1) Z.1 Z.2.1 dX5_forgetAll_18 (by decide +kernel) ?_
  refine zk_iadd Z dX5_forgetAll_19 (z := nI (ver + 1)) (nI_add _ _) ?_
  refine zk_put tyX5 tyX5_ok nmX5 (C := RX5) (T := TX5) (N := 11) (ci := 5) Z hK G hinX5 0 rfl rfl 8 (by decide) (List.mem_of_getElem? (i := 3) rfl) rfl rfl rfl rfl (Nat.le_of_ble_eq_true rfl) (ws' := [(a 2, .inr (5, [.ref (a 20), .ref (a 21), .ref (a 22), .int (nI n), .int (nI hide), .ref (a 1), .ref (a 23), .ref (a 24), .int (nI (ver + 1)), .int ew, .int (zk_b false)])), (a 23, .inl (g 2, 3024, .inl (zs_fill (fun _ => vp_nar .byte (nI 0)) T 3024)))]) rfl dX5_forgetAll_20 (fun H locs G => ?_)
  exact zk_retv Z hR_ hlk hK hQ G () trivial rfl dX5_forgetAll_23

abbrev rm_X5_allMeet : Room := { frames := 4, cells := 0, slots := 0, locals := 120 }
theorem dvX5_allMeet : zk_dv yX5_allMeet RX5 0 := by decide +kernel
set_option maxRecDepth 100000 in
set_option maxHeartbeats 4000000 in
theorem ct_X5_allMeet (l : Launch) (D : va_G) (g : Nat → ClassId) (τ : Nat → Nat) (a : Nat → Nat) (n : Nat) (hide : Nat) (ver : Nat) (ew : Int32) (ek : Bool) (P : Nat → Nat) (S : Nat → Nat) (Q : Nat → Nat) (T : Nat → Int32) (kc : Nat) (kv : Nat) (kn : Nat) (km : Nat) (sz : Nat) (ns : Int32) (ln : Nat) (at1 : Int32) (ft : Int32) (C : Nat → Nat) (X : Nat → Nat) (nm : Nat → Int32) (stk : Nat → Int32) (F : Nat → Nat) (hwf : zl_wf C X sz) (hhi : hide ≤ 180) (hW : zs_W n P S) (hF : ∀ i, i < n → F i < P i) (hok : zs_ok (decide (0 < sz)) (zl_ev C X sz) P Q hide n T) : zk_MI l D g τ yX5_allMeet wsX5_allMeet rm_X5_allMeet [.ref (a 2)] [(a 2, .inr (5, [.ref (a 20), .ref (a 21), .ref (a 22), .int (nI n), .int (nI hide), .ref (a 1), .ref (a 23), .ref (a 24), .int (nI ver), .int ew, .int (zk_b ek)])), (a 20, .inl (g 0, 7, .inl (fun i => nI (P i)))), (a 22, .inl (g 0, 7, .inl (fun i => nI (Q i)))), (a 23, .inl (g 2, 3024, .inl T)), (a 24, .inl (g 0, 7, .inl (fun i => nI (F i)))), (a 1, .inr (2, [.ref (a 10), .ref (a 11), .ref (a 12), .ref kc, .ref kv, .ref kn, .ref km, .int (nI sz), .int ns, .int (nI ln), .int at1, .int ft])), (a 10, .inl (g 0, 6, .inl nm)), (a 12, .inl (g 0, 128, .inl stk)), (kc, .inl (g 0, 128, .inl (fun i => nI (C i)))), (kv, .inl (g 0, 128, .inl (fun i => nI (X i))))] (fun (r : Int32) (uu : (Nat → Int32) × (Nat → Int32) × (Nat → Int32)) => (r = zk_b (zw_all (zs_sF (decide (0 < sz)) (zl_ev C X sz) P Q hide F) (n * (n - 1) / 2))) ∧ (zs_ok (decide (0 < sz)) (zl_ev C X sz) P Q hide n uu.1)) (fun (uu : (Nat → Int32) × (Nat → Int32) × (Nat → Int32)) => [(a 2, .inr (5, [.ref (a 20), .ref (a 21), .ref (a 22), .int (nI n), .int (nI hide), .ref (a 1), .ref (a 23), .ref (a 24), .int (nI ver), .int ew, .int (zk_b ek)])), (a 20, .inl (g 0, 7, .inl (fun i => nI (P i)))), (a 22, .inl (g 0, 7, .inl (fun i => nI (Q i)))), (a 23, .inl (g 2, 3024, .inl uu.1)), (a 24, .inl (g 0, 7, .inl (fun i => nI (F i)))), (a 1, .inr (2, [.ref (a 10), .ref (a 11), .ref (a 12), .ref kc, .ref kv, .ref kn, .ref km, .int (nI sz), .int ns, .int (nI ln), .int at1, .int ft])), (a 10, .inl (g 0, 6, .inl uu.2.1)), (a 12, .inl (g 0, 128, .inl uu.2.2)), (kc, .inl (g 0, 128, .inl (fun i => nI (C i)))), (kv, .inl (g 0, 128, .inl (fun i => nI (X i))))]) := by
  refine zk_of (Qc := fun A => va_Qi (fun (r : Int32) (uu : (Nat → Int32) × (Nat → Int32) × (Nat → Int32)) => (r = zk_b (zw_all (zs_sF (decide (0 < sz)) (zl_ev C X sz) P Q hide F) (n * (n - 1) / 2))) ∧ (zs_ok (decide (0 < sz)) (zl_ev C X sz) P Q hide n uu.1)) (zk_B D g A (fun (uu : (Nat → Int32) × (Nat → Int32) × (Nat → Int32)) => [(a 2, .inr (5, [.ref (a 20), .ref (a 21), .ref (a 22), .int (nI n), .int (nI hide), .ref (a 1), .ref (a 23), .ref (a 24), .int (nI ver), .int ew, .int (zk_b ek)])), (a 20, .inl (g 0, 7, .inl (fun i => nI (P i)))), (a 22, .inl (g 0, 7, .inl (fun i => nI (Q i)))), (a 23, .inl (g 2, 3024, .inl uu.1)), (a 24, .inl (g 0, 7, .inl (fun i => nI (F i)))), (a 1, .inr (2, [.ref (a 10), .ref (a 11), .ref (a 12), .ref kc, .ref kv, .ref kn, .ref km, .int (nI sz), .int ns, .int (nI ln), .int at1, .int ft])), (a 10, .inl (g 0, 6, .inl uu.2.1)), (a 12, .inl (g 0, 128, .inl uu.2.2)), (kc, .inl (g 0, 128, .inl (fun i => nI (C i)))), (kv, .inl (g 0, 128, .inl (fun i => nI (X i))))])) A) (cc := cX5_allMeet) (maxL := 4) (ret := (some .boolean)) (own := RX5) (by decide) rfl rfl (Nat.le_of_ble_eq_true rfl) ?_
  intro pP eE sS mM args below meth cC aA ls qQ Z hR_ hlk hnm hK hT hA hQ G hl
  have hinX5 : ∀ w ∈ u_ws RX5 TX5 11, w ∈ wsX5_allMeet := (fun _ h => List.mem_cons_of_mem _ (List.mem_append_left _ (List.mem_append_right _ h)))
  have hn := hW.1
  refine lv_iconst (v := nI 0) Z.1 Z.2.1 dX5_allMeet_0 (by decide +kernel) ?_
  refine lv_istore_n (lv' := [(1, .int (nI 0)), (0, .ref (a 2))]) Z.1 Z.2.1 dX5_allMeet_1 rfl hl (by decide) rfl (fun ls hl => ?_)
  refine lv_iconst (v := nI 1) Z.1 Z.2.1 dX5_allMeet_2 (by decide +kernel) ?_
  refine lv_istore_n (lv' := [(2, .int (nI 1)), (1, .int (nI 0)), (0, .ref (a 2))]) Z.1 Z.2.1 dX5_allMeet_3 rfl hl (by decide) rfl (fun ls hl => ?_)
  have L4 : ∀ (nN : Nat) (j : Nat) (T1 : Nat → Int32) (nm1 : Nat → Int32) (stk1 : Nat → Int32), n - j < nN → (j ≤ n ∨ j = 1) → (1 ≤ j) → (zw_all (zs_sF (decide (0 < sz)) (zl_ev C X sz) P Q hide F) (j * (j - 1) / 2) = true) → (zs_ok (decide (0 < sz)) (zl_ev C X sz) P Q hide n T1) → ∀ (H : Heap) (locs : List Loc) (ls : Array Slot), zk_G D aA [(a 2, .inr (5, [.ref (a 20), .ref (a 21), .ref (a 22), .int (nI n), .int (nI hide), .ref (a 1), .ref (a 23), .ref (a 24), .int (nI ver), .int ew, .int (zk_b ek)])), (a 20, .inl (g 0, 7, .inl (fun i => nI (P i)))), (a 22, .inl (g 0, 7, .inl (fun i => nI (Q i)))), (a 23, .inl (g 2, 3024, .inl T1)), (a 24, .inl (g 0, 7, .inl (fun i => nI (F i)))), (a 1, .inr (2, [.ref (a 10), .ref (a 11), .ref (a 12), .ref kc, .ref kv, .ref kn, .ref km, .int (nI sz), .int ns, .int (nI ln), .int at1, .int ft])), (a 10, .inl (g 0, 6, .inl nm1)), (a 12, .inl (g 0, 128, .inl stk1)), (kc, .inl (g 0, 128, .inl (fun i => nI (C i)))), (kv, .inl (g 0, 128, .inl (fun i => nI (X i))))] sS H locs → lv_has ls 4 [(0, .ref (a 2)), (1, .int (nI (j * (j - 1) / 2))), (2, .int (nI j))] → W pP l eE rm_X5_allMeet sS mM args below meth cC H locs 0 0 qQ (F0 mM 4 ls []) := by
    intro nN
    induction nN with
    | zero => intros; omega
    | succ nN ih4 =>
      intro j T1 nm1 stk1 hμ h1 h2 ha ho H locs ls G hl
      refine lv_iload_n Z.1 Z.2.1 dX5_allMeet_4 rfl (lv_at hl 2 rfl) ?_
      refine lv_aload_n Z.1 Z.2.1 dX5_allMeet_5 rfl (lv_at hl 0 rfl) ?_
      refine zk_get (C := RX5) (T := TX5) (N := 11) (ci := 5) Z hK G hinX5 0 rfl rfl 3 (by decide) (List.mem_of_getElem? (i := 1) rfl) rfl (v := .int (nI n)) rfl dX5_allMeet_6 ?_
      refine lv_icmp_ge (tgt := 56) Z.1 Z.2.1 dX5_allMeet_9 (by decide) (fun c9 => ?_) (fun c9 => ?_)
      · have c9 : n ≤ j := zk_le (by omega) (by omega) c9
        refine lv_iconst (v := nI 1) Z.1 Z.2.1 dX5_allMeet_56 (by decide +kernel) ?_
        refine W.eq (g2 := F0 mM 57 ls [.int (zk_b true)]) rfl ?_
        exact zk_retz Z hR_ hlk hK hQ G (T1, nm1, stk1) ⟨congrArg zk_b (h1.elim (fun h1 => by rw [show n = j by omega]; exact ha.symm) (fun h1 => by subst h1; rcases (show n = 0 ∨ n = 1 by omega) with rfl | rfl <;> rfl)), ho⟩ rfl dX5_allMeet_57
      have c9 : j < n := zk_nle (by omega) (by omega) c9
      have hn := hW.1
      have e0 : j * (j - 1) ≤ 6 * 5 := Nat.mul_le_mul (by omega) (by omega)
      refine lv_iconst (v := nI 0) Z.1 Z.2.1 dX5_allMeet_12 (by decide +kernel) ?_
      refine lv_istore_n (lv' := [(3, .int (nI 0)), (0, .ref (a 2)), (1, .int (nI (j * (j - 1) / 2))), (2, .int (nI j))]) Z.1 Z.2.1 dX5_allMeet_13 rfl hl (by decide) rfl (fun ls hl => ?_)
      have L14 : ∀ (nN : Nat) (i : Nat) (T1 : Nat → Int32) (nm1 : Nat → Int32) (stk1 : Nat → Int32), j - i < nN → (i ≤ j) → (zw_all (zs_sF (decide (0 < sz)) (zl_ev C X sz) P Q hide F) (j * (j - 1) / 2 + i) = true) → (zs_ok (decide (0 < sz)) (zl_ev C X sz) P Q hide n T1) → ∀ (H : Heap) (locs : List Loc) (ls : Array Slot), zk_G D aA [(a 2, .inr (5, [.ref (a 20), .ref (a 21), .ref (a 22), .int (nI n), .int (nI hide), .ref (a 1), .ref (a 23), .ref (a 24), .int (nI ver), .int ew, .int (zk_b ek)])), (a 20, .inl (g 0, 7, .inl (fun i => nI (P i)))), (a 22, .inl (g 0, 7, .inl (fun i => nI (Q i)))), (a 23, .inl (g 2, 3024, .inl T1)), (a 24, .inl (g 0, 7, .inl (fun i => nI (F i)))), (a 1, .inr (2, [.ref (a 10), .ref (a 11), .ref (a 12), .ref kc, .ref kv, .ref kn, .ref km, .int (nI sz), .int ns, .int (nI ln), .int at1, .int ft])), (a 10, .inl (g 0, 6, .inl nm1)), (a 12, .inl (g 0, 128, .inl stk1)), (kc, .inl (g 0, 128, .inl (fun i => nI (C i)))), (kv, .inl (g 0, 128, .inl (fun i => nI (X i))))] sS H locs → lv_has ls 4 [(0, .ref (a 2)), (1, .int (nI (j * (j - 1) / 2 + i))), (2, .int (nI j)), (3, .int (nI i))] → W pP l eE rm_X5_allMeet sS mM args below meth cC H locs 0 0 qQ (F0 mM 14 ls []) := by
        intro nN
        induction nN with
        | zero => intros; omega
        | succ nN ih14 =>
          intro i T1 nm1 stk1 hμ h3 hb ho H locs ls G hl
          refine lv_iload_n Z.1 Z.2.1 dX5_allMeet_14 rfl (lv_at hl 3 rfl) ?_
          refine lv_iload_n Z.1 Z.2.1 dX5_allMeet_15 rfl (lv_at hl 2 rfl) ?_
          refine lv_icmp_ge (tgt := 50) Z.1 Z.2.1 dX5_allMeet_16 (by decide) (fun c16 => ?_) (fun c16 => ?_)
          · have c16 : j ≤ i := zk_le (by omega) (by omega) c16
            have ei : i = j := by omega
            subst ei
            have e9 := zw_tri (j := i) (by omega)
            have ha_ : zw_all (zs_sF (decide (0 < sz)) (zl_ev C X sz) P Q hide F) ((i + 1) * (i + 1 - 1) / 2) = true := by rw [← e9]; exact hb
            have hl : lv_has ls 4 [(0, .ref (a 2)), (1, .int (nI ((i + 1) * (i + 1 - 1) / 2))), (2, .int (nI i)), (3, .int (nI i))] := by rw [← e9]; exact hl
            refine lv_iinc (v := nI (i + 1)) (lv' := [(2, .int (nI (i + 1))), (0, .ref (a 2)), (1, .int (nI ((i + 1) * (i + 1 - 1) / 2))), (3, .int (nI i))]) Z.1 Z.2.1 dX5_allMeet_50 hl (k := 2) rfl (zk_inc i 1) (by decide) rfl (fun ls hl => ?_)
            refine lv_goto (tgt := 4) Z.1 Z.2.1 dX5_allMeet_53 (by decide) ?_
            exact ih4 (i + 1) T1 nm1 stk1 (by omega) (by exact Or.inl (by omega)) (by omega) (by exact ha_) (by exact ho) _ _ _ G (lv_sub hl [1, 2, 0] rfl)
          have c16 : i < j := zk_nle (by omega) (by omega) c16
          obtain ⟨e1, e2, e3⟩ := zk_pr c16 (show j < 7 by omega)
          have f1 := hF i (by omega)
          have f2 := hF j c9
          refine lv_aload_n Z.1 Z.2.1 dX5_allMeet_19 rfl (lv_at hl 0 rfl) ?_
          refine lv_iload_n Z.1 Z.2.1 dX5_allMeet_20 rfl (lv_at hl 1 rfl) ?_
          refine lv_aload_n Z.1 Z.2.1 dX5_allMeet_21 rfl (lv_at hl 0 rfl) ?_
          refine zk_get (C := RX5) (T := TX5) (N := 11) (ci := 5) Z hK G hinX5 0 rfl rfl 7 (by decide) (List.mem_of_getElem? (i := 2) rfl) rfl (v := .ref (a 24)) rfl dX5_allMeet_22 ?_
          refine lv_iload_n Z.1 Z.2.1 dX5_allMeet_25 rfl (lv_at hl 3 rfl) ?_
          refine zk_iald Z hK G 4 rfl (k := i) (by omega) (by decide) (v := nI (F i)) rfl dX5_allMeet_26 ?_
          refine lv_aload_n Z.1 Z.2.1 dX5_allMeet_27 rfl (lv_at hl 0 rfl) ?_
          refine zk_get (C := RX5) (T := TX5) (N := 11) (ci := 5) Z hK G hinX5 0 rfl rfl 7 (by decide) (List.mem_of_getElem? (i := 2) rfl) rfl (v := .ref (a 24)) rfl dX5_allMeet_28 ?_
          refine lv_iload_n Z.1 Z.2.1 dX5_allMeet_31 rfl (lv_at hl 2 rfl) ?_
          refine zk_iald Z hK G 4 rfl (k := j) (by omega) (by decide) (v := nI (F j)) rfl dX5_allMeet_32 ?_
          refine zk_ci (WF := fun uu => [(a 2, .inr (5, [.ref (a 20), .ref (a 21), .ref (a 22), .int (nI n), .int (nI hide), .ref (a 1), .ref (a 23), .ref (a 24), .int (nI ver), .int ew, .int (zk_b ek)])), (a 20, .inl (g 0, 7, .inl (fun i => nI (P i)))), (a 22, .inl (g 0, 7, .inl (fun i => nI (Q i)))), (a 23, .inl (g 2, 3024, .inl uu.1)), (a 24, .inl (g 0, 7, .inl (fun i => nI (F i)))), (a 1, .inr (2, [.ref (a 10), .ref (a 11), .ref (a 12), .ref kc, .ref kv, .ref kn, .ref km, .int (nI sz), .int ns, .int (nI ln), .int at1, .int ft])), (a 10, .inl (g 0, 6, .inl uu.2.1)), (a 12, .inl (g 0, 128, .inl uu.2.2)), (kc, .inl (g 0, 128, .inl (fun i => nI (C i)))), (kv, .inl (g 0, 128, .inl (fun i => nI (X i))))]) (wr := [(a 24, .inl (g 0, 7, .inl (fun i => nI (F i))))]) ⟨rfl, rfl⟩ (zk_rv (As := [.int (nI (j * (j - 1) / 2 + i)), .int (nI (F i)), .int (nI (F j))]) (rest := []) (q0 := 0) (ci := 5) Z ((ct_X5_look l D g τ a n hide ver ew ek P S Q T1 kc kv kn km sz ns ln at1 ft C X nm1 stk1 (j * (j - 1) / 2 + i) (F i) (F j) (by exact hwf) (by omega) (by exact hW) (by exact e1) (by rw [e3]; exact c9) (by rw [e2]; exact f1) (by rw [e3]; exact f2) (by exact ho)) H.size) hK hT hA G [0, 1, 2, 3, 5, 6, 7, 8, 9] rfl (by decide) rfl rfl gX5_allMeet_X5_look rfl dvX5_look ⟨by decide, by decide⟩ rfl hl.1 rfl (Nat.le_of_ble_eq_true rfl) dX5_allMeet_33 ⟨Nat.zero_le _, Nat.zero_le _⟩) hA G [0, 1, 2, 3, 5, 6, 7, 8, 9] [4] [1, 2, 3, 4, 0, 5, 6, 7, 8, 9] rfl rfl (by decide) (by decide) (by decide) (fun _ => rfl) (fun r_33 uu H locs w_33 G => ?_)
          obtain ⟨T1_33, nm1_33, stk1_33⟩ := uu
          have G : zk_G D aA [(a 2, .inr (5, [.ref (a 20), .ref (a 21), .ref (a 22), .int (nI n), .int (nI hide), .ref (a 1), .ref (a 23), .ref (a 24), .int (nI ver), .int ew, .int (zk_b ek)])), (a 20, .inl (g 0, 7, .inl (fun i => nI (P i)))), (a 22, .inl (g 0, 7, .inl (fun i => nI (Q i)))), (a 23, .inl (g 2, 3024, .inl T1_33)), (a 24, .inl (g 0, 7, .inl (fun i => nI (F i)))), (a 1, .inr (2, [.ref (a 10), .ref (a 11), .ref (a 12), .ref kc, .ref kv, .ref kn, .ref km, .int (nI sz), .int ns, .int (nI ln), .int at1, .int ft])), (a 10, .inl (g 0, 6, .inl nm1_33)), (a 12, .inl (g 0, 128, .inl stk1_33)), (kc, .inl (g 0, 128, .inl (fun i => nI (C i)))), (kv, .inl (g 0, 128, .inl (fun i => nI (X i))))] sS H locs := G
          obtain ⟨h0_33, w_33⟩ := w_33
          obtain rfl : r_33 = zk_b (zs_sk (decide (0 < sz)) (zl_ev C X sz) P Q hide (j * (j - 1) / 2 + i) (F i) (F j)) := h0_33
          have ho_ := w_33
          have e5 : zs_sk (decide (0 < sz)) (zl_ev C X sz) P Q hide (j * (j - 1) / 2 + i) (F i) (F j) = zs_sF (decide (0 < sz)) (zl_ev C X sz) P Q hide F (j * (j - 1) / 2 + i) := by simp only [zs_sF, e2, e3]
          refine lv_if_ne (tgt := 41) Z.1 Z.2.1 dX5_allMeet_36 (by decide) (fun c36 => ?_) (fun c36 => ?_)
          · have c36 : zs_sk (decide (0 < sz)) (zl_ev C X sz) P Q hide (j * (j - 1) / 2 + i) (F i) (F j) = true := zk_b1.mp c36
            have hb_ : zw_all (zs_sF (decide (0 < sz)) (zl_ev C X sz) P Q hide F) (j * (j - 1) / 2 + i + 1) = true := by simp only [zw_all, hb, Bool.true_and]; rw [← e5]; exact c36
            refine lv_iinc (v := nI ((j * (j - 1) / 2 + i) + 1)) (lv' := [(1, .int (nI ((j * (j - 1) / 2 + i) + 1))), (0, .ref (a 2)), (2, .int (nI j)), (3, .int (nI i))]) Z.1 Z.2.1 dX5_allMeet_41 hl (k := 1) rfl (zk_inc (j * (j - 1) / 2 + i) 1) (by decide) rfl (fun ls hl => ?_)
            refine lv_iinc (v := nI (i + 1)) (lv' := [(3, .int (nI (i + 1))), (1, .int (nI ((j * (j - 1) / 2 + i) + 1))), (0, .ref (a 2)), (2, .int (nI j))]) Z.1 Z.2.1 dX5_allMeet_44 hl (k := 3) rfl (zk_inc i 1) (by decide) rfl (fun ls hl => ?_)
            refine lv_goto (tgt := 14) Z.1 Z.2.1 dX5_allMeet_47 (by decide) ?_
            exact ih14 (i + 1) T1_33 nm1_33 stk1_33 (by omega) (by omega) (by exact hb_) (by exact ho_) _ _ _ G (lv_sub hl [2, 1, 3, 0] rfl)
          have c36 : zs_sk (decide (0 < sz)) (zl_ev C X sz) P Q hide (j * (j - 1) / 2 + i) (F i) (F j) = false := zk_b0.mp c36
          refine lv_iconst (v := nI 0) Z.1 Z.2.1 dX5_allMeet_39 (by decide +kernel) ?_
          refine W.eq (g2 := F0 mM 40 ls [.int (zk_b false)]) rfl ?_
          exact zk_retz Z hR_ hlk hK hQ G (T1_33, nm1_33, stk1_33) ⟨congrArg zk_b (zw_all_no (e5.symm.trans c36) (zw_tri_lt c16 c9 hn)).symm, ho_⟩ rfl dX5_allMeet_40
      exact L14 _ 0 T1 nm1 stk1 (Nat.lt_succ_self _) (by omega) (by exact ha) (by exact ho) _ _ _ G (lv_sub hl [1, 2, 3, 0] rfl)
  exact L4 _ 1 T nm stk (Nat.lt_succ_self _) (by exact Or.inr rfl) (by omega) (by rfl) (by exact hok) _ _ _ G (lv_sub hl [2, 1, 0] rfl)

abbrev rm_X5_besides : Room := { frames := 1, cells := 0, slots := 0, locals := 20 }
theorem dvX5_besides : zk_dv yX5_besides RX5 2 := by decide +kernel
set_option maxRecDepth 100000 in
set_option maxHeartbeats 4000000 in
theorem ct_X5_besides (l : Launch) (D : va_G) (g : Nat → ClassId) (τ : Nat → Nat) (a : Nat → Nat) (n : Nat) (hide : Nat) (ver : Nat) (ew : Int32) (ek : Bool) (W1 : Nat) (D1 : Nat) (hn : n ≤ 7) (hw : W1 < 2 ^ 7) (hd : D1 < 2 ^ 21) : zk_MI l D g τ yX5_besides wsX5_besides rm_X5_besides [.ref (a 2), .int (nI W1), .int (nI D1)] [(a 2, .inr (5, [.ref (a 20), .ref (a 21), .ref (a 22), .int (nI n), .int (nI hide), .ref (a 1), .ref (a 23), .ref (a 24), .int (nI ver), .int ew, .int (zk_b ek)]))] (fun (r : Int32) (_ : Unit) => r = nI (zw_bes W1 D1 (n * (n - 1) / 2))) (fun (_ : Unit) => [(a 2, .inr (5, [.ref (a 20), .ref (a 21), .ref (a 22), .int (nI n), .int (nI hide), .ref (a 1), .ref (a 23), .ref (a 24), .int (nI ver), .int ew, .int (zk_b ek)]))]) := by
  refine zk_of (Qc := fun A => va_Qi (fun (r : Int32) (_ : Unit) => r = nI (zw_bes W1 D1 (n * (n - 1) / 2))) (zk_B D g A (fun (_ : Unit) => [(a 2, .inr (5, [.ref (a 20), .ref (a 21), .ref (a 22), .int (nI n), .int (nI hide), .ref (a 1), .ref (a 23), .ref (a 24), .int (nI ver), .int ew, .int (zk_b ek)]))])) A) (cc := cX5_besides) (maxL := 7) (ret := (some .int)) (own := RX5) (by decide) rfl rfl (Nat.le_of_ble_eq_true rfl) ?_
  intro pP eE sS mM args below meth cC aA ls qQ Z hR_ hlk hnm hK hT hA hQ G hl
  have h21 := zw_le21 hn
  refine lv_iload_n Z.1 Z.2.1 dX5_besides_0 rfl (lv_at hl 1 rfl) ?_
  refine lv_istore_n (lv' := [(3, .int (nI W1)), (0, .ref (a 2)), (1, .int (nI W1)), (2, .int (nI D1))]) Z.1 Z.2.1 dX5_besides_1 rfl hl (by decide) rfl (fun ls hl => ?_)
  refine lv_aload_n Z.1 Z.2.1 dX5_besides_2 rfl (lv_at hl 1 rfl) ?_
  refine zk_ci (WF := fun (_ : Unit) => [(a 2, .inr (5, [.ref (a 20), .ref (a 21), .ref (a 22), .int (nI n), .int (nI hide), .ref (a 1), .ref (a 23), .ref (a 24), .int (nI ver), .int ew, .int (zk_b ek)]))]) (wr := []) ⟨rfl, rfl⟩ (zk_rv (As := []) (rest := []) (q0 := 0) (ci := 5) Z ((ct_X5_pairs l D g τ a n hide ver ew ek (by omega)) sS.heap.size) hK hT hA G [0] rfl (by decide) rfl rfl gX5_besides_X5_pairs rfl dvX5_pairs ⟨by decide, by decide⟩ rfl hl.1 rfl (Nat.le_of_ble_eq_true rfl) dX5_besides_3 ⟨Nat.zero_le _, Nat.zero_le _⟩) hA G [0] [] [0] rfl rfl (by decide) (by decide) (by decide) (fun _ => rfl) (fun r_3 _ H locs w_3 G => ?_)
  obtain rfl : r_3 = nI (n * (n - 1) / 2) := w_3
  refine lv_istore (lv' := [(4, .int (nI (n * (n - 1) / 2))), (3, .int (nI W1)), (0, .ref (a 2)), (1, .int (nI W1)), (2, .int (nI D1))]) Z.1 Z.2.1 dX5_besides_6 hl (by decide) rfl (fun ls hl => ?_)
  refine lv_iconst (v := nI 0) Z.1 Z.2.1 dX5_besides_8 (by decide +kernel) ?_
  refine lv_istore (lv' := [(5, .int (nI 0)), (4, .int (nI (n * (n - 1) / 2))), (3, .int (nI W1)), (0, .ref (a 2)), (1, .int (nI W1)), (2, .int (nI D1))]) Z.1 Z.2.1 dX5_besides_9 hl (by decide) rfl (fun ls hl => ?_)
  have L11 : ∀ (nN : Nat) (k : Nat), n * (n - 1) / 2 - k < nN → (k ≤ n * (n - 1) / 2) → ∀ (H : Heap) (locs : List Loc) (ls : Array Slot), zk_G D aA [(a 2, .inr (5, [.ref (a 20), .ref (a 21), .ref (a 22), .int (nI n), .int (nI hide), .ref (a 1), .ref (a 23), .ref (a 24), .int (nI ver), .int ew, .int (zk_b ek)]))] sS H locs → lv_has ls 7 [(0, .ref (a 2)), (1, .int (nI W1)), (2, .int (nI D1)), (3, .int (nI (zw_bes W1 D1 k))), (4, .int (nI (n * (n - 1) / 2))), (5, .int (nI k))] → W pP l eE rm_X5_besides sS mM args below meth cC H locs 0 0 qQ (F0 mM 11 ls []) := by
    intro nN
    induction nN with
    | zero => intros; omega
    | succ nN ih11 =>
      intro k hμ h1 H locs ls G hl
      have h21 := zw_le21 hn
      have hle := zk_les_lt k
      have hge := zk_gre_lt k
      have hm : D1 / 2 ^ k % 2 < 2 := Nat.mod_lt _ (by decide)
      have hbb := zw_both_lt k
      have hal : W1 &&& zw_both k ≤ W1 := Nat.and_le_left
      refine lv_iload Z.1 Z.2.1 dX5_besides_11 (lv_at hl 5 rfl) ?_
      refine lv_iload Z.1 Z.2.1 dX5_besides_13 (lv_at hl 4 rfl) ?_
      refine lv_icmp_ge (tgt := 64) Z.1 Z.2.1 dX5_besides_15 (by decide) (fun c15 => ?_) (fun c15 => ?_)
      · have c15 : n * (n - 1) / 2 ≤ k := zk_le (by omega) (by omega) c15
        refine lv_iload_n Z.1 Z.2.1 dX5_besides_64 rfl (lv_at hl 3 rfl) ?_
        exact zk_reti Z hR_ hlk hK hQ G () (by rw [show k = n * (n - 1) / 2 by omega]) rfl dX5_besides_65
      have c15 : k < n * (n - 1) / 2 := zk_nle (by omega) (by omega) c15
      refine lv_iload_n Z.1 Z.2.1 dX5_besides_18 rfl (lv_at hl 2 rfl) ?_
      refine lv_iload Z.1 Z.2.1 dX5_besides_19 (lv_at hl 5 rfl) ?_
      refine lv_iushr (v := nI (D1 / 2 ^ k)) Z.1 Z.2.1 dX5_besides_21 (zw_ush (by omega) (by omega)) ?_
      refine lv_iconst (v := nI 1) Z.1 Z.2.1 dX5_besides_22 (by decide +kernel) ?_
      refine zk_iand Z dX5_besides_23 (z := nI (D1 / 2 ^ k % 2)) (zw_a1 _) ?_
      refine lv_if_eq (tgt := 58) Z.1 Z.2.1 dX5_besides_24 (by decide) (fun c24 => ?_) (fun c24 => ?_)
      · have c24 : D1 / 2 ^ k % 2 = 0 := zk_eq (by omega) (by omega) c24
        have e_1 : zw_bes W1 D1 k = zw_bes W1 D1 (k + 1) := by simp only [zw_bes]; rw [if_neg (fun q => absurd q.1 (by omega))]
        have hl : lv_has ls 7 [(0, .ref (a 2)), (1, .int (nI W1)), (2, .int (nI D1)), (3, .int (nI (zw_bes W1 D1 (k + 1)))), (4, .int (nI (n * (n - 1) / 2))), (5, .int (nI k))] := by rw [← e_1]; exact hl
        refine lv_iinc (v := nI (k + 1)) (lv' := [(5, .int (nI (k + 1))), (0, .ref (a 2)), (1, .int (nI W1)), (2, .int (nI D1)), (3, .int (nI (zw_bes W1 D1 (k + 1)))), (4, .int (nI (n * (n - 1) / 2)))]) Z.1 Z.2.1 dX5_besides_58 hl (k := 5) rfl (zk_inc k 1) (by decide) rfl (fun ls hl => ?_)
        refine lv_goto (tgt := 11) Z.1 Z.2.1 dX5_besides_61 (by decide) ?_
        exact ih11 (k + 1) (by omega) (by omega) _ _ _ G (lv_sub hl [1, 2, 3, 4, 5, 0] rfl)
      have c24 : D1 / 2 ^ k % 2 ≠ 0 := zk_neq (by omega) (by omega) c24
      refine lv_iconst (v := nI 1) Z.1 Z.2.1 dX5_besides_27 (by decide +kernel) ?_
      refine zk_gets Z G hT.1 (List.mem_of_getElem? (i := 1) rfl) dX5_besides_28 ?_
      refine lv_iload Z.1 Z.2.1 dX5_besides_31 (lv_at hl 5 rfl) ?_
      refine zk_ti Z G hT.1 (k := k) (by omega) (by decide) (v := .int (nI (zk_les k))) rfl dX5_besides_33 ?_
      refine zk_ishl Z dX5_besides_34 (z := nI (2 ^ zk_les k)) (zw_1 (by omega)) ?_
      refine lv_iconst (v := nI 1) Z.1 Z.2.1 dX5_besides_35 (by decide +kernel) ?_
      refine zk_gets Z G hT.2.1 (List.mem_of_getElem? (i := 2) rfl) dX5_besides_36 ?_
      refine lv_iload Z.1 Z.2.1 dX5_besides_39 (lv_at hl 5 rfl) ?_
      refine zk_ti Z G hT.2.1 (k := k) (by omega) (by decide) (v := .int (nI (zk_gre k))) rfl dX5_besides_41 ?_
      refine zk_ishl Z dX5_besides_42 (z := nI (2 ^ zk_gre k)) (zw_1 (by omega)) ?_
      refine zk_ior Z dX5_besides_43 (z := nI (zw_both k)) (zw_or _ _) ?_
      refine lv_istore (lv' := [(6, .int (nI (zw_both k))), (0, .ref (a 2)), (1, .int (nI W1)), (2, .int (nI D1)), (3, .int (nI (zw_bes W1 D1 k))), (4, .int (nI (n * (n - 1) / 2))), (5, .int (nI k))]) Z.1 Z.2.1 dX5_besides_44 hl (by decide) rfl (fun ls hl => ?_)
      refine lv_iload_n Z.1 Z.2.1 dX5_besides_46 rfl (lv_at hl 2 rfl) ?_
      refine lv_iload Z.1 Z.2.1 dX5_besides_47 (lv_at hl 0 rfl) ?_
      refine zk_iand Z dX5_besides_49 (z := nI (W1 &&& zw_both k)) (zw_and _ _) ?_
      refine lv_if_eq (tgt := 58) Z.1 Z.2.1 dX5_besides_50 (by decide) (fun c50 => ?_) (fun c50 => ?_)
      · have c50 : W1 &&& zw_both k = 0 := zk_eq (by omega) (by omega) c50
        have e_2 : zw_bes W1 D1 k = zw_bes W1 D1 (k + 1) := by simp only [zw_bes]; rw [if_neg (fun q => q.2 c50)]
        have hl : lv_has ls 7 [(6, .int (nI (zw_both k))), (0, .ref (a 2)), (1, .int (nI W1)), (2, .int (nI D1)), (3, .int (nI (zw_bes W1 D1 (k + 1)))), (4, .int (nI (n * (n - 1) / 2))), (5, .int (nI k))] := by rw [← e_2]; exact hl
        refine lv_iinc (v := nI (k + 1)) (lv' := [(5, .int (nI (k + 1))), (6, .int (nI (zw_both k))), (0, .ref (a 2)), (1, .int (nI W1)), (2, .int (nI D1)), (3, .int (nI (zw_bes W1 D1 (k + 1)))), (4, .int (nI (n * (n - 1) / 2)))]) Z.1 Z.2.1 dX5_besides_58 hl (k := 6) rfl (zk_inc k 1) (by decide) rfl (fun ls hl => ?_)
        refine lv_goto (tgt := 11) Z.1 Z.2.1 dX5_besides_61 (by decide) ?_
        exact ih11 (k + 1) (by omega) (by omega) _ _ _ G (lv_sub hl [2, 3, 4, 5, 6, 0] rfl)
      have c50 : W1 &&& zw_both k ≠ 0 := zk_neq (by omega) (by omega) c50
      refine lv_iload_n Z.1 Z.2.1 dX5_besides_53 rfl (lv_at hl 4 rfl) ?_
      refine lv_iload Z.1 Z.2.1 dX5_besides_54 (lv_at hl 0 rfl) ?_
      refine zk_ior Z dX5_besides_56 (z := nI (zw_bes W1 D1 k ||| zw_both k)) (zw_or _ _) ?_
      refine lv_istore_n (lv' := [(3, .int (nI (zw_bes W1 D1 k ||| zw_both k))), (6, .int (nI (zw_both k))), (0, .ref (a 2)), (1, .int (nI W1)), (2, .int (nI D1)), (4, .int (nI (n * (n - 1) / 2))), (5, .int (nI k))]) Z.1 Z.2.1 dX5_besides_57 rfl hl (by decide) rfl (fun ls hl => ?_)
      have e_3 : zw_bes W1 D1 k ||| zw_both k = zw_bes W1 D1 (k + 1) := by simp only [zw_bes]; rw [if_pos ⟨by omega, c50⟩]
      have hl : lv_has ls 7 [(3, .int (nI (zw_bes W1 D1 (k + 1)))), (6, .int (nI (zw_both k))), (0, .ref (a 2)), (1, .int (nI W1)), (2, .int (nI D1)), (4, .int (nI (n * (n - 1) / 2))), (5, .int (nI k))] := by rw [← e_3]; exact hl
      refine lv_iinc (v := nI (k + 1)) (lv' := [(5, .int (nI (k + 1))), (3, .int (nI (zw_bes W1 D1 (k + 1)))), (6, .int (nI (zw_both k))), (0, .ref (a 2)), (1, .int (nI W1)), (2, .int (nI D1)), (4, .int (nI (n * (n - 1) / 2)))]) Z.1 Z.2.1 dX5_besides_58 hl (k := 6) rfl (zk_inc k 1) (by decide) rfl (fun ls hl => ?_)
      refine lv_goto (tgt := 11) Z.1 Z.2.1 dX5_besides_61 (by decide) ?_
      exact ih11 (k + 1) (by omega) (by omega) _ _ _ G (lv_sub hl [3, 4, 5, 1, 6, 0] rfl)
  exact L11 _ 0 (Nat.lt_succ_self _) (by omega) _ _ _ G (lv_sub hl [3, 4, 5, 2, 1, 0] rfl)

abbrev rm_X5_reached : Room := { frames := 2, cells := 0, slots := 0, locals := 46 }
theorem dvX5_reached : zk_dv yX5_reached RX5 2 := by decide +kernel
set_option maxRecDepth 100000 in
set_option maxHeartbeats 4000000 in
theorem ct_X5_reached (l : Launch) (D : va_G) (g : Nat → ClassId) (τ : Nat → Nat) (a : Nat → Nat) (n : Nat) (hide : Nat) (ver : Nat) (ew : Int32) (ek : Bool) (w1 : Nat) (D1 : Nat) (hn : n ≤ 7) (hw : w1 < 7) (hd : D1 < 2 ^ 21) : zk_MI l D g τ yX5_reached wsX5_reached rm_X5_reached [.ref (a 2), .int (nI w1), .int (nI D1)] [(a 2, .inr (5, [.ref (a 20), .ref (a 21), .ref (a 22), .int (nI n), .int (nI hide), .ref (a 1), .ref (a 23), .ref (a 24), .int (nI ver), .int ew, .int (zk_b ek)]))] (fun (r : Int32) (_ : Unit) => r = nI (zw_rch D1 (n * (n - 1) / 2) 7 (2 ^ w1))) (fun (_ : Unit) => [(a 2, .inr (5, [.ref (a 20), .ref (a 21), .ref (a 22), .int (nI n), .int (nI hide), .ref (a 1), .ref (a 23), .ref (a 24), .int (nI ver), .int ew, .int (zk_b ek)]))]) := by
  refine zk_of (Qc := fun A => va_Qi (fun (r : Int32) (_ : Unit) => r = nI (zw_rch D1 (n * (n - 1) / 2) 7 (2 ^ w1))) (zk_B D g A (fun (_ : Unit) => [(a 2, .inr (5, [.ref (a 20), .ref (a 21), .ref (a 22), .int (nI n), .int (nI hide), .ref (a 1), .ref (a 23), .ref (a 24), .int (nI ver), .int ew, .int (zk_b ek)]))])) A) (cc := cX5_reached) (maxL := 6) (ret := (some .int)) (own := RX5) (by decide) rfl rfl (Nat.le_of_ble_eq_true rfl) ?_
  intro pP eE sS mM args below meth cC aA ls qQ Z hR_ hlk hnm hK hT hA hQ G hl
  obtain ⟨V, hV⟩ : ∃ V, V = zw_rch D1 (n * (n - 1) / 2) 7 (2 ^ w1) := ⟨_, rfl⟩
  refine lv_iconst (v := nI 1) Z.1 Z.2.1 dX5_reached_0 (by decide +kernel) ?_
  refine lv_iload_n Z.1 Z.2.1 dX5_reached_1 rfl (lv_at hl 1 rfl) ?_
  refine zk_ishl Z dX5_reached_2 (z := nI (2 ^ w1)) (zw_1 (by omega)) ?_
  refine lv_istore_n (lv' := [(3, .int (nI (2 ^ w1))), (0, .ref (a 2)), (1, .int (nI w1)), (2, .int (nI D1))]) Z.1 Z.2.1 dX5_reached_3 rfl hl (by decide) rfl (fun ls hl => ?_)
  refine lv_iconst (v := nI 0) Z.1 Z.2.1 dX5_reached_4 (by decide +kernel) ?_
  refine lv_istore (lv' := [(4, .int (nI 0)), (3, .int (nI (2 ^ w1))), (0, .ref (a 2)), (1, .int (nI w1)), (2, .int (nI D1))]) Z.1 Z.2.1 dX5_reached_5 hl (by decide) rfl (fun ls hl => ?_)
  have L7 : ∀ (nN : Nat) (i : Nat) (b : Nat), 7 - i < nN → (i ≤ 7) → (b < 2 ^ 7) → (zw_rch D1 (n * (n - 1) / 2) (7 - i) b = V) → ∀ (H : Heap) (locs : List Loc) (ls : Array Slot), zk_G D aA [(a 2, .inr (5, [.ref (a 20), .ref (a 21), .ref (a 22), .int (nI n), .int (nI hide), .ref (a 1), .ref (a 23), .ref (a 24), .int (nI ver), .int ew, .int (zk_b ek)]))] sS H locs → lv_has ls 6 [(0, .ref (a 2)), (1, .int (nI w1)), (2, .int (nI D1)), (3, .int (nI b)), (4, .int (nI i))] → W pP l eE rm_X5_reached sS mM args below meth cC H locs 0 0 qQ (F0 mM 7 ls []) := by
    intro nN
    induction nN with
    | zero => intros; omega
    | succ nN ih7 =>
      intro i b hμ hi hb he H locs ls G hl
      refine lv_iload Z.1 Z.2.1 dX5_reached_7 (lv_at hl 4 rfl) ?_
      refine lv_bipush (v := nI 7) Z.1 Z.2.1 dX5_reached_9 (by decide +kernel) ?_
      refine lv_icmp_ge (tgt := 40) Z.1 Z.2.1 dX5_reached_11 (by decide) (fun c11 => ?_) (fun c11 => ?_)
      · have c11 : 7 ≤ i := zk_le (by omega) (by omega) c11
        refine lv_iload_n Z.1 Z.2.1 dX5_reached_40 rfl (lv_at hl 3 rfl) ?_
        exact zk_reti Z hR_ hlk hK hQ G () (congrArg nI (by rw [← hV, ← he, show 7 - i = 0 by omega]; rfl)) rfl dX5_reached_41
      have c11 : i < 7 := zk_nle (by omega) (by omega) c11
      obtain ⟨f, hf⟩ : ∃ f, 7 - i = f + 1 := ⟨6 - i, by omega⟩
      rw [hf] at he
      have hbb := zw_bes_lt (D := D1) hb (n * (n - 1) / 2)
      simp only [zw_rch] at he
      refine lv_aload_n Z.1 Z.2.1 dX5_reached_14 rfl (lv_at hl 0 rfl) ?_
      refine lv_iload_n Z.1 Z.2.1 dX5_reached_15 rfl (lv_at hl 3 rfl) ?_
      refine lv_iload_n Z.1 Z.2.1 dX5_reached_16 rfl (lv_at hl 2 rfl) ?_
      refine zk_ci (WF := fun (_ : Unit) => [(a 2, .inr (5, [.ref (a 20), .ref (a 21), .ref (a 22), .int (nI n), .int (nI hide), .ref (a 1), .ref (a 23), .ref (a 24), .int (nI ver), .int ew, .int (zk_b ek)]))]) (wr := []) ⟨rfl, rfl⟩ (zk_rv (As := [.int (nI b), .int (nI D1)]) (rest := []) (q0 := 0) (ci := 5) Z ((ct_X5_besides l D g τ a n hide ver ew ek b D1 (by omega) (by omega) (by omega)) H.size) hK hT hA G [0] rfl (by decide) rfl rfl gX5_reached_X5_besides rfl dvX5_besides ⟨by decide, by decide⟩ rfl hl.1 rfl (Nat.le_of_ble_eq_true rfl) dX5_reached_17 ⟨Nat.zero_le _, Nat.zero_le _⟩) hA G [0] [] [0] rfl rfl (by decide) (by decide) (by decide) (fun _ => rfl) (fun r_17 _ H locs w_17 G => ?_)
      obtain rfl : r_17 = nI (zw_bes b D1 (n * (n - 1) / 2)) := w_17
      refine lv_istore (lv' := [(5, .int (nI (zw_bes b D1 (n * (n - 1) / 2)))), (0, .ref (a 2)), (1, .int (nI w1)), (2, .int (nI D1)), (3, .int (nI b)), (4, .int (nI i))]) Z.1 Z.2.1 dX5_reached_20 hl (by decide) rfl (fun ls hl => ?_)
      refine lv_iload Z.1 Z.2.1 dX5_reached_22 (lv_at hl 0 rfl) ?_
      refine lv_iload_n Z.1 Z.2.1 dX5_reached_24 rfl (lv_at hl 4 rfl) ?_
      refine lv_icmp_ne (tgt := 31) Z.1 Z.2.1 dX5_reached_25 (by decide) (fun c25 => ?_) (fun c25 => ?_)
      · have c25 : zw_bes b D1 (n * (n - 1) / 2) ≠ b := zk_neq (by omega) (by omega) c25
        rw [if_neg c25] at he
        refine lv_iload Z.1 Z.2.1 dX5_reached_31 (lv_at hl 0 rfl) ?_
        refine lv_istore_n (lv' := [(3, .int (nI (zw_bes b D1 (n * (n - 1) / 2)))), (5, .int (nI (zw_bes b D1 (n * (n - 1) / 2)))), (0, .ref (a 2)), (1, .int (nI w1)), (2, .int (nI D1)), (4, .int (nI i))]) Z.1 Z.2.1 dX5_reached_33 rfl hl (by decide) rfl (fun ls hl => ?_)
        refine lv_iinc (v := nI (i + 1)) (lv' := [(4, .int (nI (i + 1))), (3, .int (nI (zw_bes b D1 (n * (n - 1) / 2)))), (5, .int (nI (zw_bes b D1 (n * (n - 1) / 2)))), (0, .ref (a 2)), (1, .int (nI w1)), (2, .int (nI D1))]) Z.1 Z.2.1 dX5_reached_34 hl (k := 5) rfl (zk_inc i 1) (by decide) rfl (fun ls hl => ?_)
        refine lv_goto (tgt := 7) Z.1 Z.2.1 dX5_reached_37 (by decide) ?_
        exact ih7 (i + 1) (zw_bes b D1 (n * (n - 1) / 2)) (by omega) (by omega) (by exact hbb) (by rw [show 7 - (i + 1) = f by omega]; exact he) _ _ _ G (lv_sub hl [3, 4, 5, 1, 0] rfl)
      have c25 : zw_bes b D1 (n * (n - 1) / 2) = b := zk_eq (by omega) (by omega) c25
      rw [if_pos c25] at he
      refine lv_goto (tgt := 40) Z.1 Z.2.1 dX5_reached_28 (by decide) ?_
      refine lv_iload_n Z.1 Z.2.1 dX5_reached_40 rfl (lv_at hl 4 rfl) ?_
      exact zk_reti Z hR_ hlk hK hQ G () (congrArg nI (he.trans hV)) rfl dX5_reached_41
  exact L7 _ 0 (2 ^ w1) (Nat.lt_succ_self _) (by omega) (by exact zw_p2 hw) (by exact hV.symm) _ _ _ G (lv_sub hl [2, 3, 4, 1, 0] rfl)

abbrev rm_X5_everLed : Room := { frames := 4, cells := 0, slots := 0, locals := 120 }
theorem dvX5_everLed : zk_dv yX5_everLed RX5 2 := by decide +kernel
set_option maxRecDepth 100000 in
set_option maxHeartbeats 4000000 in
theorem ct_X5_everLed (l : Launch) (D : va_G) (g : Nat → ClassId) (τ : Nat → Nat) (a : Nat → Nat) (n : Nat) (hide : Nat) (ver : Nat) (ew : Int32) (ek : Bool) (P : Nat → Nat) (S : Nat → Nat) (Q : Nat → Nat) (T : Nat → Int32) (kc : Nat) (kv : Nat) (kn : Nat) (km : Nat) (sz : Nat) (ns : Int32) (ln : Nat) (at1 : Int32) (ft : Int32) (C : Nat → Nat) (X : Nat → Nat) (nm : Nat → Int32) (stk : Nat → Int32) (p1 : Nat) (q1 : Nat) (hwf : zl_wf C X sz) (hhi : hide ≤ 180) (hW : zs_W n P S) (hp : p1 < n) (hq : q1 < n) (hev : ek = true → ew = nI (zw (zw_ev (decide (0 < sz)) (zl_ev C X sz) P S Q hide) (n * (n - 1) / 2))) (hok : zs_ok (decide (0 < sz)) (zl_ev C X sz) P Q hide n T) : zk_MI l D g τ yX5_everLed wsX5_everLed rm_X5_everLed [.ref (a 2), .int (nI p1), .int (nI q1)] [(a 2, .inr (5, [.ref (a 20), .ref (a 21), .ref (a 22), .int (nI n), .int (nI hide), .ref (a 1), .ref (a 23), .ref (a 24), .int (nI ver), .int ew, .int (zk_b ek)])), (a 20, .inl (g 0, 7, .inl (fun i => nI (P i)))), (a 21, .inl (g 0, 7, .inl (fun i => nI (S i)))), (a 22, .inl (g 0, 7, .inl (fun i => nI (Q i)))), (a 23, .inl (g 2, 3024, .inl T)), (a 1, .inr (2, [.ref (a 10), .ref (a 11), .ref (a 12), .ref kc, .ref kv, .ref kn, .ref km, .int (nI sz), .int ns, .int (nI ln), .int at1, .int ft])), (a 10, .inl (g 0, 6, .inl nm)), (a 12, .inl (g 0, 128, .inl stk)), (kc, .inl (g 0, 128, .inl (fun i => nI (C i)))), (kv, .inl (g 0, 128, .inl (fun i => nI (X i))))] (fun (r : Int32) (uu : (Nat → Int32) × (Nat → Int32) × (Nat → Int32)) => (r = zk_b (zw_led (decide (0 < sz)) (zl_ev C X sz) P S Q hide n p1 q1)) ∧ (zs_ok (decide (0 < sz)) (zl_ev C X sz) P Q hide n uu.1)) (fun (uu : (Nat → Int32) × (Nat → Int32) × (Nat → Int32)) => [(a 2, .inr (5, [.ref (a 20), .ref (a 21), .ref (a 22), .int (nI n), .int (nI hide), .ref (a 1), .ref (a 23), .ref (a 24), .int (nI ver), .int ((nI (zw (zw_ev (decide (0 < sz)) (zl_ev C X sz) P S Q hide) (n * (n - 1) / 2)))), .int (zk_b true)])), (a 20, .inl (g 0, 7, .inl (fun i => nI (P i)))), (a 21, .inl (g 0, 7, .inl (fun i => nI (S i)))), (a 22, .inl (g 0, 7, .inl (fun i => nI (Q i)))), (a 23, .inl (g 2, 3024, .inl uu.1)), (a 1, .inr (2, [.ref (a 10), .ref (a 11), .ref (a 12), .ref kc, .ref kv, .ref kn, .ref km, .int (nI sz), .int ns, .int (nI ln), .int at1, .int ft])), (a 10, .inl (g 0, 6, .inl uu.2.1)), (a 12, .inl (g 0, 128, .inl uu.2.2)), (kc, .inl (g 0, 128, .inl (fun i => nI (C i)))), (kv, .inl (g 0, 128, .inl (fun i => nI (X i))))]) := by
  refine zk_of (Qc := fun A => va_Qi (fun (r : Int32) (uu : (Nat → Int32) × (Nat → Int32) × (Nat → Int32)) => (r = zk_b (zw_led (decide (0 < sz)) (zl_ev C X sz) P S Q hide n p1 q1)) ∧ (zs_ok (decide (0 < sz)) (zl_ev C X sz) P Q hide n uu.1)) (zk_B D g A (fun (uu : (Nat → Int32) × (Nat → Int32) × (Nat → Int32)) => [(a 2, .inr (5, [.ref (a 20), .ref (a 21), .ref (a 22), .int (nI n), .int (nI hide), .ref (a 1), .ref (a 23), .ref (a 24), .int (nI ver), .int ((nI (zw (zw_ev (decide (0 < sz)) (zl_ev C X sz) P S Q hide) (n * (n - 1) / 2)))), .int (zk_b true)])), (a 20, .inl (g 0, 7, .inl (fun i => nI (P i)))), (a 21, .inl (g 0, 7, .inl (fun i => nI (S i)))), (a 22, .inl (g 0, 7, .inl (fun i => nI (Q i)))), (a 23, .inl (g 2, 3024, .inl uu.1)), (a 1, .inr (2, [.ref (a 10), .ref (a 11), .ref (a 12), .ref kc, .ref kv, .ref kn, .ref km, .int (nI sz), .int ns, .int (nI ln), .int at1, .int ft])), (a 10, .inl (g 0, 6, .inl uu.2.1)), (a 12, .inl (g 0, 128, .inl uu.2.2)), (kc, .inl (g 0, 128, .inl (fun i => nI (C i)))), (kv, .inl (g 0, 128, .inl (fun i => nI (X i))))])) A) (cc := cX5_everLed) (maxL := 7) (ret := (some .boolean)) (own := RX5) (by decide) rfl rfl (Nat.le_of_ble_eq_true rfl) ?_
  intro pP eE sS mM args below meth cC aA ls qQ Z hR_ hlk hnm hK hT hA hQ G hl
  have hinX5 : ∀ w ∈ u_ws RX5 TX5 11, w ∈ wsX5_everLed := (fun _ h => List.mem_cons_of_mem _ (List.mem_append_left _ (List.mem_append_right _ h)))
  have hn := hW.1
  have h21 := zw_le21 hn
  refine lv_aload_n Z.1 Z.2.1 dX5_everLed_0 rfl (lv_at hl 0 rfl) ?_
  refine zk_get (C := RX5) (T := TX5) (N := 11) (ci := 5) Z hK G hinX5 0 rfl rfl 10 (by decide) (List.mem_of_getElem? (i := 1) rfl) rfl (v := .int (zk_b ek)) rfl dX5_everLed_1 ?_
  refine lv_if_ne (tgt := 129) Z.1 Z.2.1 dX5_everLed_4 (by decide) (fun c4 => ?_) (fun c4 => ?_)
  · have c4 : ek = true := zk_b1.mp c4
    have e9 := hev c4
    subst e9
    subst c4
    have hz := zw_lt31 (zw_ev (decide (0 < sz)) (zl_ev C X sz) P S Q hide) (zw_le21 hn)
    have hrl : zw_rch (zw (zw_ev (decide (0 < sz)) (zl_ev C X sz) P S Q hide) (n * (n - 1) / 2)) (n * (n - 1) / 2) 7 (2 ^ p1) < 2 ^ 7 := zw_rch_lt (zw_p2 (show p1 < 7 by omega))
    have hral : zw_rch (zw (zw_ev (decide (0 < sz)) (zl_ev C X sz) P S Q hide) (n * (n - 1) / 2)) (n * (n - 1) / 2) 7 (2 ^ p1) &&& 2 ^ q1 ≤ zw_rch (zw (zw_ev (decide (0 < sz)) (zl_ev C X sz) P S Q hide) (n * (n - 1) / 2)) (n * (n - 1) / 2) 7 (2 ^ p1) := Nat.and_le_left
    refine lv_aload_n Z.1 Z.2.1 dX5_everLed_129 rfl (lv_at hl 0 rfl) ?_
    refine lv_iload_n Z.1 Z.2.1 dX5_everLed_130 rfl (lv_at hl 1 rfl) ?_
    refine lv_aload_n Z.1 Z.2.1 dX5_everLed_131 rfl (lv_at hl 0 rfl) ?_
    refine zk_get (C := RX5) (T := TX5) (N := 11) (ci := 5) Z hK G hinX5 0 rfl rfl 9 (by decide) (List.mem_of_getElem? (i := 2) rfl) rfl (v := .int (nI (zw (zw_ev (decide (0 < sz)) (zl_ev C X sz) P S Q hide) (n * (n - 1) / 2)))) rfl dX5_everLed_132 ?_
    refine zk_ci (WF := fun (_ : Unit) => [(a 2, .inr (5, [.ref (a 20), .ref (a 21), .ref (a 22), .int (nI n), .int (nI hide), .ref (a 1), .ref (a 23), .ref (a 24), .int (nI ver), .int (nI (zw (zw_ev (decide (0 < sz)) (zl_ev C X sz) P S Q hide) (n * (n - 1) / 2))), .int (zk_b true)])), (a 20, .inl (g 0, 7, .inl (fun i => nI (P i)))), (a 21, .inl (g 0, 7, .inl (fun i => nI (S i)))), (a 22, .inl (g 0, 7, .inl (fun i => nI (Q i)))), (a 23, .inl (g 2, 3024, .inl T)), (a 1, .inr (2, [.ref (a 10), .ref (a 11), .ref (a 12), .ref kc, .ref kv, .ref kn, .ref km, .int (nI sz), .int ns, .int (nI ln), .int at1, .int ft])), (a 10, .inl (g 0, 6, .inl nm)), (a 12, .inl (g 0, 128, .inl stk)), (kc, .inl (g 0, 128, .inl (fun i => nI (C i)))), (kv, .inl (g 0, 128, .inl (fun i => nI (X i))))]) (wr := [(a 20, .inl (g 0, 7, .inl (fun i => nI (P i)))), (a 21, .inl (g 0, 7, .inl (fun i => nI (S i)))), (a 22, .inl (g 0, 7, .inl (fun i => nI (Q i)))), (a 23, .inl (g 2, 3024, .inl T)), (a 1, .inr (2, [.ref (a 10), .ref (a 11), .ref (a 12), .ref kc, .ref kv, .ref kn, .ref km, .int (nI sz), .int ns, .int (nI ln), .int at1, .int ft])), (a 10, .inl (g 0, 6, .inl nm)), (a 12, .inl (g 0, 128, .inl stk)), (kc, .inl (g 0, 128, .inl (fun i => nI (C i)))), (kv, .inl (g 0, 128, .inl (fun i => nI (X i))))]) ⟨rfl, rfl⟩ (zk_rv (As := [.int (nI p1), .int (nI (zw (zw_ev (decide (0 < sz)) (zl_ev C X sz) P S Q hide) (n * (n - 1) / 2)))]) (rest := []) (q0 := 0) (ci := 5) Z ((ct_X5_reached l D g τ a n hide ver (nI (zw (zw_ev (decide (0 < sz)) (zl_ev C X sz) P S Q hide) (n * (n - 1) / 2))) true p1 (zw (zw_ev (decide (0 < sz)) (zl_ev C X sz) P S Q hide) (n * (n - 1) / 2)) (by omega) (by omega) (by exact hz)) sS.heap.size) hK hT hA G [0] rfl (by decide) rfl rfl gX5_everLed_X5_reached rfl dvX5_reached ⟨by decide, by decide⟩ rfl hl.1 rfl (Nat.le_of_ble_eq_true rfl) dX5_everLed_135 ⟨Nat.zero_le _, Nat.zero_le _⟩) hA G [0] [1, 2, 3, 4, 5, 6, 7, 8, 9] [9, 0, 1, 2, 3, 4, 5, 6, 7, 8] rfl rfl (by decide) (by decide) (by decide) (fun _ => rfl) (fun r_135 _ H locs w_135 G => ?_)
    obtain rfl : r_135 = nI (zw_rch (zw (zw_ev (decide (0 < sz)) (zl_ev C X sz) P S Q hide) (n * (n - 1) / 2)) (n * (n - 1) / 2) 7 (2 ^ p1)) := w_135
    refine lv_iconst (v := nI 1) Z.1 Z.2.1 dX5_everLed_138 (by decide +kernel) ?_
    refine lv_iload_n Z.1 Z.2.1 dX5_everLed_139 rfl (lv_at hl 2 rfl) ?_
    refine zk_ishl Z dX5_everLed_140 (z := nI (2 ^ q1)) (zw_1 (by omega)) ?_
    refine zk_iand Z dX5_everLed_141 (z := nI (zw_rch (zw (zw_ev (decide (0 < sz)) (zl_ev C X sz) P S Q hide) (n * (n - 1) / 2)) (n * (n - 1) / 2) 7 (2 ^ p1) &&& 2 ^ q1)) (zw_and _ _) ?_
    refine lv_if_eq (tgt := 149) Z.1 Z.2.1 dX5_everLed_142 (by decide) (fun c142 => ?_) (fun c142 => ?_)
    · have c142 : zw_rch (zw (zw_ev (decide (0 < sz)) (zl_ev C X sz) P S Q hide) (n * (n - 1) / 2)) (n * (n - 1) / 2) 7 (2 ^ p1) &&& 2 ^ q1 = 0 := zk_eq (by omega) (by omega) c142
      refine lv_iconst (v := nI 0) Z.1 Z.2.1 dX5_everLed_149 (by decide +kernel) ?_
      refine W.eq (g2 := F0 mM 150 ls [.int (zk_b false)]) rfl ?_
      exact zk_retz Z hR_ hlk hK hQ G (T, nm, stk) ⟨congrArg zk_b (decide_eq_false (not_not_intro c142)).symm, hok⟩ rfl dX5_everLed_150
    have c142 : zw_rch (zw (zw_ev (decide (0 < sz)) (zl_ev C X sz) P S Q hide) (n * (n - 1) / 2)) (n * (n - 1) / 2) 7 (2 ^ p1) &&& 2 ^ q1 ≠ 0 := zk_neq (by omega) (by omega) c142
    refine lv_iconst (v := nI 1) Z.1 Z.2.1 dX5_everLed_145 (by decide +kernel) ?_
    refine lv_goto (tgt := 150) Z.1 Z.2.1 dX5_everLed_146 (by decide) ?_
    refine W.eq (g2 := F0 mM 150 ls [.int (zk_b true)]) rfl ?_
    exact zk_retz Z hR_ hlk hK hQ G (T, nm, stk) ⟨congrArg zk_b (decide_eq_true c142).symm, hok⟩ rfl dX5_everLed_150
  have c4 : ek = false := zk_b0.mp c4
  subst c4
  refine lv_aload_n Z.1 Z.2.1 dX5_everLed_7 rfl (lv_at hl 0 rfl) ?_
  refine lv_iconst (v := nI 0) Z.1 Z.2.1 dX5_everLed_8 (by decide +kernel) ?_
  refine zk_put tyX5 tyX5_ok nmX5 (C := RX5) (T := TX5) (N := 11) (ci := 5) Z hK G hinX5 0 rfl rfl 9 (by decide) (List.mem_of_getElem? (i := 2) rfl) rfl rfl rfl rfl (Nat.le_of_ble_eq_true rfl) (ws' := [(a 2, .inr (5, [.ref (a 20), .ref (a 21), .ref (a 22), .int (nI n), .int (nI hide), .ref (a 1), .ref (a 23), .ref (a 24), .int (nI ver), .int (nI 0), .int (zk_b false)])), (a 20, .inl (g 0, 7, .inl (fun i => nI (P i)))), (a 21, .inl (g 0, 7, .inl (fun i => nI (S i)))), (a 22, .inl (g 0, 7, .inl (fun i => nI (Q i)))), (a 23, .inl (g 2, 3024, .inl T)), (a 1, .inr (2, [.ref (a 10), .ref (a 11), .ref (a 12), .ref kc, .ref kv, .ref kn, .ref km, .int (nI sz), .int ns, .int (nI ln), .int at1, .int ft])), (a 10, .inl (g 0, 6, .inl nm)), (a 12, .inl (g 0, 128, .inl stk)), (kc, .inl (g 0, 128, .inl (fun i => nI (C i)))), (kv, .inl (g 0, 128, .inl (fun i => nI (X i))))]) rfl dX5_everLed_9 (fun H locs G => ?_)
  refine lv_aload_n Z.1 Z.2.1 dX5_everLed_12 rfl (lv_at hl 0 rfl) ?_
  refine zk_ci (WF := fun (_ : Unit) => [(a 2, .inr (5, [.ref (a 20), .ref (a 21), .ref (a 22), .int (nI n), .int (nI hide), .ref (a 1), .ref (a 23), .ref (a 24), .int (nI ver), .int (nI 0), .int (zk_b false)])), (a 20, .inl (g 0, 7, .inl (fun i => nI (P i)))), (a 21, .inl (g 0, 7, .inl (fun i => nI (S i)))), (a 22, .inl (g 0, 7, .inl (fun i => nI (Q i)))), (a 23, .inl (g 2, 3024, .inl T)), (a 1, .inr (2, [.ref (a 10), .ref (a 11), .ref (a 12), .ref kc, .ref kv, .ref kn, .ref km, .int (nI sz), .int ns, .int (nI ln), .int at1, .int ft])), (a 10, .inl (g 0, 6, .inl nm)), (a 12, .inl (g 0, 128, .inl stk)), (kc, .inl (g 0, 128, .inl (fun i => nI (C i)))), (kv, .inl (g 0, 128, .inl (fun i => nI (X i))))]) (wr := [(a 20, .inl (g 0, 7, .inl (fun i => nI (P i)))), (a 21, .inl (g 0, 7, .inl (fun i => nI (S i)))), (a 22, .inl (g 0, 7, .inl (fun i => nI (Q i)))), (a 23, .inl (g 2, 3024, .inl T)), (a 1, .inr (2, [.ref (a 10), .ref (a 11), .ref (a 12), .ref kc, .ref kv, .ref kn, .ref km, .int (nI sz), .int ns, .int (nI ln), .int at1, .int ft])), (a 10, .inl (g 0, 6, .inl nm)), (a 12, .inl (g 0, 128, .inl stk)), (kc, .inl (g 0, 128, .inl (fun i => nI (C i)))), (kv, .inl (g 0, 128, .inl (fun i => nI (X i))))]) ⟨rfl, rfl⟩ (zk_rv (As := []) (rest := []) (q0 := 0) (ci := 5) Z ((ct_X5_pairs l D g τ a n hide ver (nI 0) false (by omega)) H.size) hK hT hA G [0] rfl (by decide) rfl rfl gX5_everLed_X5_pairs rfl dvX5_pairs ⟨by decide, by decide⟩ rfl hl.1 rfl (Nat.le_of_ble_eq_true rfl) dX5_everLed_13 ⟨Nat.zero_le _, Nat.zero_le _⟩) hA G [0] [1, 2, 3, 4, 5, 6, 7, 8, 9] [9, 0, 1, 2, 3, 4, 5, 6, 7, 8] rfl rfl (by decide) (by decide) (by decide) (fun _ => rfl) (fun r_13 _ H locs w_13 G => ?_)
  obtain rfl : r_13 = nI (n * (n - 1) / 2) := w_13
  refine lv_istore_n (lv' := [(3, .int (nI (n * (n - 1) / 2))), (0, .ref (a 2)), (1, .int (nI p1)), (2, .int (nI q1))]) Z.1 Z.2.1 dX5_everLed_16 rfl hl (by decide) rfl (fun ls hl => ?_)
  refine lv_iconst (v := nI 0) Z.1 Z.2.1 dX5_everLed_17 (by decide +kernel) ?_
  refine lv_istore (lv' := [(4, .int (nI 0)), (3, .int (nI (n * (n - 1) / 2))), (0, .ref (a 2)), (1, .int (nI p1)), (2, .int (nI q1))]) Z.1 Z.2.1 dX5_everLed_18 hl (by decide) rfl (fun ls hl => ?_)
  have L20 : ∀ (nN : Nat) (k : Nat) (T1 : Nat → Int32) (nm1 : Nat → Int32) (stk1 : Nat → Int32), (n * (n - 1) / 2) - k < nN → (k ≤ (n * (n - 1) / 2)) → (zs_ok (decide (0 < sz)) (zl_ev C X sz) P Q hide n T1) → ∀ (H : Heap) (locs : List Loc) (ls : Array Slot), zk_G D aA [(a 2, .inr (5, [.ref (a 20), .ref (a 21), .ref (a 22), .int (nI n), .int (nI hide), .ref (a 1), .ref (a 23), .ref (a 24), .int (nI ver), .int ((nI (zw (zw_ev (decide (0 < sz)) (zl_ev C X sz) P S Q hide) k))), .int (zk_b false)])), (a 20, .inl (g 0, 7, .inl (fun i => nI (P i)))), (a 21, .inl (g 0, 7, .inl (fun i => nI (S i)))), (a 22, .inl (g 0, 7, .inl (fun i => nI (Q i)))), (a 23, .inl (g 2, 3024, .inl T1)), (a 1, .inr (2, [.ref (a 10), .ref (a 11), .ref (a 12), .ref kc, .ref kv, .ref kn, .ref km, .int (nI sz), .int ns, .int (nI ln), .int at1, .int ft])), (a 10, .inl (g 0, 6, .inl nm1)), (a 12, .inl (g 0, 128, .inl stk1)), (kc, .inl (g 0, 128, .inl (fun i => nI (C i)))), (kv, .inl (g 0, 128, .inl (fun i => nI (X i))))] sS H locs → lv_has ls 7 [(0, .ref (a 2)), (1, .int (nI p1)), (2, .int (nI q1)), (3, .int (nI (n * (n - 1) / 2))), (4, .int (nI k))] → W pP l eE rm_X5_everLed sS mM args below meth cC H locs 0 0 qQ (F0 mM 20 ls []) := by
    intro nN
    induction nN with
    | zero => intros; omega
    | succ nN ih20 =>
      intro k T1 nm1 stk1 hμ h1 ho H locs ls G hl
      refine lv_iload Z.1 Z.2.1 dX5_everLed_20 (lv_at hl 4 rfl) ?_
      refine lv_iload_n Z.1 Z.2.1 dX5_everLed_22 rfl (lv_at hl 3 rfl) ?_
      refine lv_icmp_ge (tgt := 124) Z.1 Z.2.1 dX5_everLed_23 (by decide) (fun c23 => ?_) (fun c23 => ?_)
      · have c23 : n * (n - 1) / 2 ≤ k := zk_le (by omega) (by omega) c23
        have ek_ : k = (n * (n - 1) / 2) := by omega
        subst ek_
        refine lv_aload_n Z.1 Z.2.1 dX5_everLed_124 rfl (lv_at hl 0 rfl) ?_
        refine lv_iconst (v := nI 1) Z.1 Z.2.1 dX5_everLed_125 (by decide +kernel) ?_
        refine W.eq (g2 := F0 mM 126 ls [.int (zk_b true), .ref (a 2)]) rfl ?_
        refine zk_put tyX5 tyX5_ok nmX5 (C := RX5) (T := TX5) (N := 11) (ci := 5) Z hK G hinX5 0 rfl rfl 10 (by decide) (List.mem_of_getElem? (i := 1) rfl) rfl rfl zk_bnar zk_bfit (Nat.le_of_ble_eq_true rfl) (ws' := [(a 2, .inr (5, [.ref (a 20), .ref (a 21), .ref (a 22), .int (nI n), .int (nI hide), .ref (a 1), .ref (a 23), .ref (a 24), .int (nI ver), .int ((nI (zw (zw_ev (decide (0 < sz)) (zl_ev C X sz) P S Q hide) (n * (n - 1) / 2)))), .int (zk_b true)])), (a 20, .inl (g 0, 7, .inl (fun i => nI (P i)))), (a 21, .inl (g 0, 7, .inl (fun i => nI (S i)))), (a 22, .inl (g 0, 7, .inl (fun i => nI (Q i)))), (a 23, .inl (g 2, 3024, .inl T1)), (a 1, .inr (2, [.ref (a 10), .ref (a 11), .ref (a 12), .ref kc, .ref kv, .ref kn, .ref km, .int (nI sz), .int ns, .int (nI ln), .int at1, .int ft])), (a 10, .inl (g 0, 6, .inl nm1)), (a 12, .inl (g 0, 128, .inl stk1)), (kc, .inl (g 0, 128, .inl (fun i => nI (C i)))), (kv, .inl (g 0, 128, .inl (fun i => nI (X i))))]) rfl dX5_everLed_126 (fun H locs G => ?_)
        have hz := zw_lt31 (zw_ev (decide (0 < sz)) (zl_ev C X sz) P S Q hide) (zw_le21 hn)
        have hrl : zw_rch (zw (zw_ev (decide (0 < sz)) (zl_ev C X sz) P S Q hide) (n * (n - 1) / 2)) (n * (n - 1) / 2) 7 (2 ^ p1) < 2 ^ 7 := zw_rch_lt (zw_p2 (show p1 < 7 by omega))
        have hral : zw_rch (zw (zw_ev (decide (0 < sz)) (zl_ev C X sz) P S Q hide) (n * (n - 1) / 2)) (n * (n - 1) / 2) 7 (2 ^ p1) &&& 2 ^ q1 ≤ zw_rch (zw (zw_ev (decide (0 < sz)) (zl_ev C X sz) P S Q hide) (n * (n - 1) / 2)) (n * (n - 1) / 2) 7 (2 ^ p1) := Nat.and_le_left
        refine lv_aload_n Z.1 Z.2.1 dX5_everLed_129 rfl (lv_at hl 0 rfl) ?_
        refine lv_iload_n Z.1 Z.2.1 dX5_everLed_130 rfl (lv_at hl 1 rfl) ?_
        refine lv_aload_n Z.1 Z.2.1 dX5_everLed_131 rfl (lv_at hl 0 rfl) ?_
        refine zk_get (C := RX5) (T := TX5) (N := 11) (ci := 5) Z hK G hinX5 0 rfl rfl 9 (by decide) (List.mem_of_getElem? (i := 2) rfl) rfl (v := .int (nI (zw (zw_ev (decide (0 < sz)) (zl_ev C X sz) P S Q hide) (n * (n - 1) / 2)))) rfl dX5_everLed_132 ?_
        refine zk_ci (WF := fun (_ : Unit) => [(a 2, .inr (5, [.ref (a 20), .ref (a 21), .ref (a 22), .int (nI n), .int (nI hide), .ref (a 1), .ref (a 23), .ref (a 24), .int (nI ver), .int (nI (zw (zw_ev (decide (0 < sz)) (zl_ev C X sz) P S Q hide) (n * (n - 1) / 2))), .int (zk_b true)])), (a 20, .inl (g 0, 7, .inl (fun i => nI (P i)))), (a 21, .inl (g 0, 7, .inl (fun i => nI (S i)))), (a 22, .inl (g 0, 7, .inl (fun i => nI (Q i)))), (a 23, .inl (g 2, 3024, .inl T1)), (a 1, .inr (2, [.ref (a 10), .ref (a 11), .ref (a 12), .ref kc, .ref kv, .ref kn, .ref km, .int (nI sz), .int ns, .int (nI ln), .int at1, .int ft])), (a 10, .inl (g 0, 6, .inl nm1)), (a 12, .inl (g 0, 128, .inl stk1)), (kc, .inl (g 0, 128, .inl (fun i => nI (C i)))), (kv, .inl (g 0, 128, .inl (fun i => nI (X i))))]) (wr := [(a 20, .inl (g 0, 7, .inl (fun i => nI (P i)))), (a 21, .inl (g 0, 7, .inl (fun i => nI (S i)))), (a 22, .inl (g 0, 7, .inl (fun i => nI (Q i)))), (a 23, .inl (g 2, 3024, .inl T1)), (a 1, .inr (2, [.ref (a 10), .ref (a 11), .ref (a 12), .ref kc, .ref kv, .ref kn, .ref km, .int (nI sz), .int ns, .int (nI ln), .int at1, .int ft])), (a 10, .inl (g 0, 6, .inl nm1)), (a 12, .inl (g 0, 128, .inl stk1)), (kc, .inl (g 0, 128, .inl (fun i => nI (C i)))), (kv, .inl (g 0, 128, .inl (fun i => nI (X i))))]) ⟨rfl, rfl⟩ (zk_rv (As := [.int (nI p1), .int (nI (zw (zw_ev (decide (0 < sz)) (zl_ev C X sz) P S Q hide) (n * (n - 1) / 2)))]) (rest := []) (q0 := 0) (ci := 5) Z ((ct_X5_reached l D g τ a n hide ver (nI (zw (zw_ev (decide (0 < sz)) (zl_ev C X sz) P S Q hide) (n * (n - 1) / 2))) true p1 (zw (zw_ev (decide (0 < sz)) (zl_ev C X sz) P S Q hide) (n * (n - 1) / 2)) (by omega) (by omega) (by exact hz)) H.size) hK hT hA G [0] rfl (by decide) rfl rfl gX5_everLed_X5_reached rfl dvX5_reached ⟨by decide, by decide⟩ rfl hl.1 rfl (Nat.le_of_ble_eq_true rfl) dX5_everLed_135 ⟨Nat.zero_le _, Nat.zero_le _⟩) hA G [0] [1, 2, 3, 4, 5, 6, 7, 8, 9] [9, 0, 1, 2, 3, 4, 5, 6, 7, 8] rfl rfl (by decide) (by decide) (by decide) (fun _ => rfl) (fun r_135 _ H locs w_135 G => ?_)
        obtain rfl : r_135 = nI (zw_rch (zw (zw_ev (decide (0 < sz)) (zl_ev C X sz) P S Q hide) (n * (n - 1) / 2)) (n * (n - 1) / 2) 7 (2 ^ p1)) := w_135
        refine lv_iconst (v := nI 1) Z.1 Z.2.1 dX5_everLed_138 (by decide +kernel) ?_
        refine lv_iload_n Z.1 Z.2.1 dX5_everLed_139 rfl (lv_at hl 2 rfl) ?_
        refine zk_ishl Z dX5_everLed_140 (z := nI (2 ^ q1)) (zw_1 (by omega)) ?_
        refine zk_iand Z dX5_everLed_141 (z := nI (zw_rch (zw (zw_ev (decide (0 < sz)) (zl_ev C X sz) P S Q hide) (n * (n - 1) / 2)) (n * (n - 1) / 2) 7 (2 ^ p1) &&& 2 ^ q1)) (zw_and _ _) ?_
        refine lv_if_eq (tgt := 149) Z.1 Z.2.1 dX5_everLed_142 (by decide) (fun c142 => ?_) (fun c142 => ?_)
        · have c142 : zw_rch (zw (zw_ev (decide (0 < sz)) (zl_ev C X sz) P S Q hide) (n * (n - 1) / 2)) (n * (n - 1) / 2) 7 (2 ^ p1) &&& 2 ^ q1 = 0 := zk_eq (by omega) (by omega) c142
          refine lv_iconst (v := nI 0) Z.1 Z.2.1 dX5_everLed_149 (by decide +kernel) ?_
          refine W.eq (g2 := F0 mM 150 ls [.int (zk_b false)]) rfl ?_
          exact zk_retz Z hR_ hlk hK hQ G (T1, nm1, stk1) ⟨congrArg zk_b (decide_eq_false (not_not_intro c142)).symm, ho⟩ rfl dX5_everLed_150
        have c142 : zw_rch (zw (zw_ev (decide (0 < sz)) (zl_ev C X sz) P S Q hide) (n * (n - 1) / 2)) (n * (n - 1) / 2) 7 (2 ^ p1) &&& 2 ^ q1 ≠ 0 := zk_neq (by omega) (by omega) c142
        refine lv_iconst (v := nI 1) Z.1 Z.2.1 dX5_everLed_145 (by decide +kernel) ?_
        refine lv_goto (tgt := 150) Z.1 Z.2.1 dX5_everLed_146 (by decide) ?_
        refine W.eq (g2 := F0 mM 150 ls [.int (zk_b true)]) rfl ?_
        exact zk_retz Z hR_ hlk hK hQ G (T1, nm1, stk1) ⟨congrArg zk_b (decide_eq_true c142).symm, ho⟩ rfl dX5_everLed_150
      have c23 : k < n * (n - 1) / 2 := zk_nle (by omega) (by omega) c23
      obtain ⟨k21, kgn⟩ := zw_tri_gre hn c23
      have lg := zk_les_gre k21
      have w1 := hW.2 (zk_les k) (by omega)
      have w2 := hW.2 (zk_gre k) kgn
      have e0 := zs_lcm_le (a := P (zk_les k)) (b := P (zk_gre k))
      have e1 : P (zk_les k) * P (zk_gre k) ≤ 12 * 12 := Nat.mul_le_mul w1.2.1 w2.2.1
      refine lv_aload_n Z.1 Z.2.1 dX5_everLed_26 rfl (lv_at hl 0 rfl) ?_
      refine zk_gets Z G hT.1 (List.mem_of_getElem? (i := 3) rfl) dX5_everLed_27 ?_
      refine lv_iload Z.1 Z.2.1 dX5_everLed_30 (lv_at hl 4 rfl) ?_
      refine zk_ti Z G hT.1 (k := k) (by omega) (by decide) (v := .int (nI (zk_les k))) rfl dX5_everLed_32 ?_
      refine zk_gets Z G hT.2.1 (List.mem_of_getElem? (i := 4) rfl) dX5_everLed_33 ?_
      refine lv_iload Z.1 Z.2.1 dX5_everLed_36 (lv_at hl 4 rfl) ?_
      refine zk_ti Z G hT.2.1 (k := k) (by omega) (by decide) (v := .int (nI (zk_gre k))) rfl dX5_everLed_38 ?_
      refine zk_ci (WF := fun (_ : Unit) => [(a 2, .inr (5, [.ref (a 20), .ref (a 21), .ref (a 22), .int (nI n), .int (nI hide), .ref (a 1), .ref (a 23), .ref (a 24), .int (nI ver), .int ((nI (zw (zw_ev (decide (0 < sz)) (zl_ev C X sz) P S Q hide) k))), .int (zk_b false)])), (a 20, .inl (g 0, 7, .inl (fun i => nI (P i)))), (a 21, .inl (g 0, 7, .inl (fun i => nI (S i)))), (a 22, .inl (g 0, 7, .inl (fun i => nI (Q i)))), (a 23, .inl (g 2, 3024, .inl T1)), (a 1, .inr (2, [.ref (a 10), .ref (a 11), .ref (a 12), .ref kc, .ref kv, .ref kn, .ref km, .int (nI sz), .int ns, .int (nI ln), .int at1, .int ft])), (a 10, .inl (g 0, 6, .inl nm1)), (a 12, .inl (g 0, 128, .inl stk1)), (kc, .inl (g 0, 128, .inl (fun i => nI (C i)))), (kv, .inl (g 0, 128, .inl (fun i => nI (X i))))]) (wr := [(a 21, .inl (g 0, 7, .inl (fun i => nI (S i)))), (a 22, .inl (g 0, 7, .inl (fun i => nI (Q i)))), (a 23, .inl (g 2, 3024, .inl T1)), (a 1, .inr (2, [.ref (a 10), .ref (a 11), .ref (a 12), .ref kc, .ref kv, .ref kn, .ref km, .int (nI sz), .int ns, .int (nI ln), .int at1, .int ft])), (a 10, .inl (g 0, 6, .inl nm1)), (a 12, .inl (g 0, 128, .inl stk1)), (kc, .inl (g 0, 128, .inl (fun i => nI (C i)))), (kv, .inl (g 0, 128, .inl (fun i => nI (X i))))]) ⟨rfl, rfl⟩ (zk_rv (As := [.int (nI (zk_les k)), .int (nI (zk_gre k))]) (rest := []) (q0 := 0) (ci := 5) Z ((ct_X5_roundOfTwo l D g τ a n hide ver (nI (zw (zw_ev (decide (0 < sz)) (zl_ev C X sz) P S Q hide) k)) false P (zk_les k) (zk_gre k) (by omega) (by omega) (by omega) (by omega) (by omega) (by omega)) H.size) hK hT hA G [0, 1] rfl (by decide) rfl rfl gX5_everLed_X5_roundOfTwo rfl dvX5_roundOfTwo ⟨by decide, by decide⟩ rfl hl.1 rfl (Nat.le_of_ble_eq_true rfl) dX5_everLed_39 ⟨Nat.zero_le _, Nat.zero_le _⟩) hA G [0, 1] [2, 3, 4, 5, 6, 7, 8, 9] [8, 9, 0, 1, 2, 3, 4, 5, 6, 7] rfl rfl (by decide) (by decide) (by decide) (fun _ => rfl) (fun r_39 _ H locs w_39 G => ?_)
      obtain rfl : r_39 = nI (zs_lcm (P (zk_les k)) (P (zk_gre k))) := w_39
      refine lv_istore (lv' := [(5, .int (nI (zs_lcm (P (zk_les k)) (P (zk_gre k))))), (0, .ref (a 2)), (1, .int (nI p1)), (2, .int (nI q1)), (3, .int (nI (n * (n - 1) / 2))), (4, .int (nI k))]) Z.1 Z.2.1 dX5_everLed_42 hl (by decide) rfl (fun ls hl => ?_)
      have G : zk_G D aA [(a 2, .inr (5, [.ref (a 20), .ref (a 21), .ref (a 22), .int (nI n), .int (nI hide), .ref (a 1), .ref (a 23), .ref (a 24), .int (nI ver), .int ((nI (zw (zw_ev (decide (0 < sz)) (zl_ev C X sz) P S Q hide) k + zw_p false k))), .int (zk_b false)])), (a 20, .inl (g 0, 7, .inl (fun i => nI (P i)))), (a 21, .inl (g 0, 7, .inl (fun i => nI (S i)))), (a 22, .inl (g 0, 7, .inl (fun i => nI (Q i)))), (a 23, .inl (g 2, 3024, .inl T1)), (a 1, .inr (2, [.ref (a 10), .ref (a 11), .ref (a 12), .ref kc, .ref kv, .ref kn, .ref km, .int (nI sz), .int ns, .int (nI ln), .int at1, .int ft])), (a 10, .inl (g 0, 6, .inl nm1)), (a 12, .inl (g 0, 128, .inl stk1)), (kc, .inl (g 0, 128, .inl (fun i => nI (C i)))), (kv, .inl (g 0, 128, .inl (fun i => nI (X i))))] sS H locs := G
      refine lv_iconst (v := nI 0) Z.1 Z.2.1 dX5_everLed_44 (by decide +kernel) ?_
      refine lv_istore (lv' := [(6, .int (nI 0)), (5, .int (nI (zs_lcm (P (zk_les k)) (P (zk_gre k))))), (0, .ref (a 2)), (1, .int (nI p1)), (2, .int (nI q1)), (3, .int (nI (n * (n - 1) / 2))), (4, .int (nI k))]) Z.1 Z.2.1 dX5_everLed_45 hl (by decide) rfl (fun ls hl => ?_)
      have L47 : ∀ (nN : Nat) (t : Nat) (b : Bool) (T1 : Nat → Int32) (nm1 : Nat → Int32) (stk1 : Nat → Int32), zs_lcm (P (zk_les k)) (P (zk_gre k)) - t < nN → (t ≤ zs_lcm (P (zk_les k)) (P (zk_gre k))) → (b = zw_any (fun t => zs_sT (decide (0 < sz)) (zl_ev C X sz) P S Q hide t k) t) → (zs_ok (decide (0 < sz)) (zl_ev C X sz) P Q hide n T1) → ∀ (H : Heap) (locs : List Loc) (ls : Array Slot), zk_G D aA [(a 2, .inr (5, [.ref (a 20), .ref (a 21), .ref (a 22), .int (nI n), .int (nI hide), .ref (a 1), .ref (a 23), .ref (a 24), .int (nI ver), .int ((nI (zw (zw_ev (decide (0 < sz)) (zl_ev C X sz) P S Q hide) k + zw_p b k))), .int (zk_b false)])), (a 20, .inl (g 0, 7, .inl (fun i => nI (P i)))), (a 21, .inl (g 0, 7, .inl (fun i => nI (S i)))), (a 22, .inl (g 0, 7, .inl (fun i => nI (Q i)))), (a 23, .inl (g 2, 3024, .inl T1)), (a 1, .inr (2, [.ref (a 10), .ref (a 11), .ref (a 12), .ref kc, .ref kv, .ref kn, .ref km, .int (nI sz), .int ns, .int (nI ln), .int at1, .int ft])), (a 10, .inl (g 0, 6, .inl nm1)), (a 12, .inl (g 0, 128, .inl stk1)), (kc, .inl (g 0, 128, .inl (fun i => nI (C i)))), (kv, .inl (g 0, 128, .inl (fun i => nI (X i))))] sS H locs → lv_has ls 7 [(0, .ref (a 2)), (1, .int (nI p1)), (2, .int (nI q1)), (3, .int (nI (n * (n - 1) / 2))), (4, .int (nI k)), (5, .int (nI (zs_lcm (P (zk_les k)) (P (zk_gre k))))), (6, .int (nI t))] → W pP l eE rm_X5_everLed sS mM args below meth cC H locs 0 0 qQ (F0 mM 47 ls []) := by
        intro nN
        induction nN with
        | zero => intros; omega
        | succ nN ih47 =>
          intro t b T1 nm1 stk1 hμ h3 hb ho H locs ls G hl
          have hbit := zw_pb (zw_lt (zw_ev (decide (0 < sz)) (zl_ev C X sz) P S Q hide) k) b
          have hz := zw_lt31 (zw_ev (decide (0 < sz)) (zl_ev C X sz) P S Q hide) (k := k) (by omega)
          have hzp : zw_p b k < 2 ^ 21 := by cases b; exact Nat.two_pow_pos 21; exact zw_p2 (show k < 21 by omega)
          refine lv_iload Z.1 Z.2.1 dX5_everLed_47 (lv_at hl 6 rfl) ?_
          refine lv_iload Z.1 Z.2.1 dX5_everLed_49 (lv_at hl 5 rfl) ?_
          refine lv_icmp_ge (tgt := 118) Z.1 Z.2.1 dX5_everLed_51 (by decide) (fun c51 => ?_) (fun c51 => ?_)
          · have c51 : zs_lcm (P (zk_les k)) (P (zk_gre k)) ≤ t := zk_le (by omega) (by omega) c51
            have eb : b = zw_ev (decide (0 < sz)) (zl_ev C X sz) P S Q hide k := by
              rw [hb, show t = zs_lcm (P (zk_les k)) (P (zk_gre k)) by omega]; rfl
            have ez : zw (zw_ev (decide (0 < sz)) (zl_ev C X sz) P S Q hide) k + zw_p b k = zw (zw_ev (decide (0 < sz)) (zl_ev C X sz) P S Q hide) (k + 1) := by simp only [zw, zw_p]; rw [eb]
            have G : zk_G D aA [(a 2, .inr (5, [.ref (a 20), .ref (a 21), .ref (a 22), .int (nI n), .int (nI hide), .ref (a 1), .ref (a 23), .ref (a 24), .int (nI ver), .int ((nI (zw (zw_ev (decide (0 < sz)) (zl_ev C X sz) P S Q hide) (k + 1)))), .int (zk_b false)])), (a 20, .inl (g 0, 7, .inl (fun i => nI (P i)))), (a 21, .inl (g 0, 7, .inl (fun i => nI (S i)))), (a 22, .inl (g 0, 7, .inl (fun i => nI (Q i)))), (a 23, .inl (g 2, 3024, .inl T1)), (a 1, .inr (2, [.ref (a 10), .ref (a 11), .ref (a 12), .ref kc, .ref kv, .ref kn, .ref km, .int (nI sz), .int ns, .int (nI ln), .int at1, .int ft])), (a 10, .inl (g 0, 6, .inl nm1)), (a 12, .inl (g 0, 128, .inl stk1)), (kc, .inl (g 0, 128, .inl (fun i => nI (C i)))), (kv, .inl (g 0, 128, .inl (fun i => nI (X i))))] sS H locs := (by rw [← ez]; exact G)
            refine lv_iinc (v := nI (k + 1)) (lv' := [(4, .int (nI (k + 1))), (0, .ref (a 2)), (1, .int (nI p1)), (2, .int (nI q1)), (3, .int (nI (n * (n - 1) / 2))), (5, .int (nI (zs_lcm (P (zk_les k)) (P (zk_gre k))))), (6, .int (nI t))]) Z.1 Z.2.1 dX5_everLed_118 hl (k := 4) rfl (zk_inc k 1) (by decide) rfl (fun ls hl => ?_)
            refine lv_goto (tgt := 20) Z.1 Z.2.1 dX5_everLed_121 (by decide) ?_
            exact ih20 (k + 1) T1 nm1 stk1 (by omega) (by omega) (by exact ho) _ _ _ G (lv_sub hl [1, 2, 3, 4, 0] rfl)
          have c51 : t < zs_lcm (P (zk_les k)) (P (zk_gre k)) := zk_nle (by omega) (by omega) c51
          refine lv_aload_n Z.1 Z.2.1 dX5_everLed_54 rfl (lv_at hl 0 rfl) ?_
          refine zk_get (C := RX5) (T := TX5) (N := 11) (ci := 5) Z hK G hinX5 0 rfl rfl 9 (by decide) (List.mem_of_getElem? (i := 2) rfl) rfl (v := .int ((nI (zw (zw_ev (decide (0 < sz)) (zl_ev C X sz) P S Q hide) k + zw_p b k)))) rfl dX5_everLed_55 ?_
          refine lv_iload Z.1 Z.2.1 dX5_everLed_58 (lv_at hl 4 rfl) ?_
          refine lv_iushr (v := nI ((zw (zw_ev (decide (0 < sz)) (zl_ev C X sz) P S Q hide) k + zw_p b k) / 2 ^ k)) Z.1 Z.2.1 dX5_everLed_60 (zw_ush (by omega) (by omega)) ?_
          refine lv_iconst (v := nI 1) Z.1 Z.2.1 dX5_everLed_61 (by decide +kernel) ?_
          refine zk_iand Z dX5_everLed_62 (z := nI ((zw (zw_ev (decide (0 < sz)) (zl_ev C X sz) P S Q hide) k + zw_p b k) / 2 ^ k % 2)) (zw_a1 _) ?_
          refine lv_if_ne (tgt := 118) Z.1 Z.2.1 dX5_everLed_63 (by decide) (fun c63 => ?_) (fun c63 => ?_)
          · have c63 : (zw (zw_ev (decide (0 < sz)) (zl_ev C X sz) P S Q hide) k + zw_p b k) / 2 ^ k % 2 ≠ 0 := zk_neq (by omega) (by omega) c63
            have hbv : b = true := by
              cases b with
              | true => rfl
              | false => exact absurd hbit c63
            have eb : b = zw_ev (decide (0 < sz)) (zl_ev C X sz) P S Q hide k := by
              rw [hbv]; exact (zw_any_mono h3 (hb.symm.trans hbv)).symm
            have ez : zw (zw_ev (decide (0 < sz)) (zl_ev C X sz) P S Q hide) k + zw_p b k = zw (zw_ev (decide (0 < sz)) (zl_ev C X sz) P S Q hide) (k + 1) := by simp only [zw, zw_p]; rw [eb]
            have G : zk_G D aA [(a 2, .inr (5, [.ref (a 20), .ref (a 21), .ref (a 22), .int (nI n), .int (nI hide), .ref (a 1), .ref (a 23), .ref (a 24), .int (nI ver), .int ((nI (zw (zw_ev (decide (0 < sz)) (zl_ev C X sz) P S Q hide) (k + 1)))), .int (zk_b false)])), (a 20, .inl (g 0, 7, .inl (fun i => nI (P i)))), (a 21, .inl (g 0, 7, .inl (fun i => nI (S i)))), (a 22, .inl (g 0, 7, .inl (fun i => nI (Q i)))), (a 23, .inl (g 2, 3024, .inl T1)), (a 1, .inr (2, [.ref (a 10), .ref (a 11), .ref (a 12), .ref kc, .ref kv, .ref kn, .ref km, .int (nI sz), .int ns, .int (nI ln), .int at1, .int ft])), (a 10, .inl (g 0, 6, .inl nm1)), (a 12, .inl (g 0, 128, .inl stk1)), (kc, .inl (g 0, 128, .inl (fun i => nI (C i)))), (kv, .inl (g 0, 128, .inl (fun i => nI (X i))))] sS H locs := (by rw [← ez]; exact G)
            refine lv_iinc (v := nI (k + 1)) (lv' := [(4, .int (nI (k + 1))), (0, .ref (a 2)), (1, .int (nI p1)), (2, .int (nI q1)), (3, .int (nI (n * (n - 1) / 2))), (5, .int (nI (zs_lcm (P (zk_les k)) (P (zk_gre k))))), (6, .int (nI t))]) Z.1 Z.2.1 dX5_everLed_118 hl (k := 4) rfl (zk_inc k 1) (by decide) rfl (fun ls hl => ?_)
            refine lv_goto (tgt := 20) Z.1 Z.2.1 dX5_everLed_121 (by decide) ?_
            exact ih20 (k + 1) T1 nm1 stk1 (by omega) (by omega) (by exact ho) _ _ _ G (lv_sub hl [1, 2, 3, 4, 0] rfl)
          have c63 : (zw (zw_ev (decide (0 < sz)) (zl_ev C X sz) P S Q hide) k + zw_p b k) / 2 ^ k % 2 = 0 := zk_eq (by omega) (by omega) c63
          have hbv : b = false := by
            cases b with
            | false => rfl
            | true => exact absurd (hbit.symm.trans c63) (by decide)
          refine lv_aload_n Z.1 Z.2.1 dX5_everLed_66 rfl (lv_at hl 0 rfl) ?_
          refine lv_iload Z.1 Z.2.1 dX5_everLed_67 (lv_at hl 4 rfl) ?_
          refine lv_aload_n Z.1 Z.2.1 dX5_everLed_69 rfl (lv_at hl 0 rfl) ?_
          refine zk_gets Z G hT.1 (List.mem_of_getElem? (i := 3) rfl) dX5_everLed_70 ?_
          refine lv_iload Z.1 Z.2.1 dX5_everLed_73 (lv_at hl 4 rfl) ?_
          refine zk_ti Z G hT.1 (k := k) (by omega) (by decide) (v := .int (nI (zk_les k))) rfl dX5_everLed_75 ?_
          refine lv_iload Z.1 Z.2.1 dX5_everLed_76 (lv_at hl 6 rfl) ?_
          refine zk_ci (WF := fun (_ : Unit) => [(a 2, .inr (5, [.ref (a 20), .ref (a 21), .ref (a 22), .int (nI n), .int (nI hide), .ref (a 1), .ref (a 23), .ref (a 24), .int (nI ver), .int ((nI (zw (zw_ev (decide (0 < sz)) (zl_ev C X sz) P S Q hide) k + zw_p b k))), .int (zk_b false)])), (a 20, .inl (g 0, 7, .inl (fun i => nI (P i)))), (a 21, .inl (g 0, 7, .inl (fun i => nI (S i)))), (a 22, .inl (g 0, 7, .inl (fun i => nI (Q i)))), (a 23, .inl (g 2, 3024, .inl T1)), (a 1, .inr (2, [.ref (a 10), .ref (a 11), .ref (a 12), .ref kc, .ref kv, .ref kn, .ref km, .int (nI sz), .int ns, .int (nI ln), .int at1, .int ft])), (a 10, .inl (g 0, 6, .inl nm1)), (a 12, .inl (g 0, 128, .inl stk1)), (kc, .inl (g 0, 128, .inl (fun i => nI (C i)))), (kv, .inl (g 0, 128, .inl (fun i => nI (X i))))]) (wr := [(a 22, .inl (g 0, 7, .inl (fun i => nI (Q i)))), (a 23, .inl (g 2, 3024, .inl T1)), (a 1, .inr (2, [.ref (a 10), .ref (a 11), .ref (a 12), .ref kc, .ref kv, .ref kn, .ref km, .int (nI sz), .int ns, .int (nI ln), .int at1, .int ft])), (a 10, .inl (g 0, 6, .inl nm1)), (a 12, .inl (g 0, 128, .inl stk1)), (kc, .inl (g 0, 128, .inl (fun i => nI (C i)))), (kv, .inl (g 0, 128, .inl (fun i => nI (X i))))]) ⟨rfl, rfl⟩ (zk_rv (As := [.int (nI (zk_les k)), .int (nI t)]) (rest := [.int (nI k), .ref (a 2)]) (q0 := 0) (ci := 5) Z ((ct_X5_phase l D g τ a n hide ver (nI (zw (zw_ev (decide (0 < sz)) (zl_ev C X sz) P S Q hide) k + zw_p b k)) false P S (zk_les k) t (by omega) (by exact w1.1) (by exact w1.2.1) (by exact w1.2.2) (by omega)) H.size) hK hT hA G [0, 1, 2] rfl (by decide) rfl rfl gX5_everLed_X5_phase rfl dvX5_phase ⟨by decide, by decide⟩ rfl hl.1 rfl (Nat.le_of_ble_eq_true rfl) dX5_everLed_78 ⟨Nat.zero_le _, Nat.zero_le _⟩) hA G [0, 1, 2] [3, 4, 5, 6, 7, 8, 9] [7, 8, 9, 0, 1, 2, 3, 4, 5, 6] rfl rfl (by decide) (by decide) (by decide) (fun _ => rfl) (fun r_78 _ H locs w_78 G => ?_)
          obtain rfl : r_78 = nI (zs_ph P S (zk_les k) t) := w_78
          refine lv_aload_n Z.1 Z.2.1 dX5_everLed_81 rfl (lv_at hl 0 rfl) ?_
          refine zk_gets Z G hT.2.1 (List.mem_of_getElem? (i := 4) rfl) dX5_everLed_82 ?_
          refine lv_iload Z.1 Z.2.1 dX5_everLed_85 (lv_at hl 4 rfl) ?_
          refine zk_ti Z G hT.2.1 (k := k) (by omega) (by decide) (v := .int (nI (zk_gre k))) rfl dX5_everLed_87 ?_
          refine lv_iload Z.1 Z.2.1 dX5_everLed_88 (lv_at hl 6 rfl) ?_
          refine zk_ci (WF := fun (_ : Unit) => [(a 2, .inr (5, [.ref (a 20), .ref (a 21), .ref (a 22), .int (nI n), .int (nI hide), .ref (a 1), .ref (a 23), .ref (a 24), .int (nI ver), .int ((nI (zw (zw_ev (decide (0 < sz)) (zl_ev C X sz) P S Q hide) k + zw_p b k))), .int (zk_b false)])), (a 20, .inl (g 0, 7, .inl (fun i => nI (P i)))), (a 21, .inl (g 0, 7, .inl (fun i => nI (S i)))), (a 22, .inl (g 0, 7, .inl (fun i => nI (Q i)))), (a 23, .inl (g 2, 3024, .inl T1)), (a 1, .inr (2, [.ref (a 10), .ref (a 11), .ref (a 12), .ref kc, .ref kv, .ref kn, .ref km, .int (nI sz), .int ns, .int (nI ln), .int at1, .int ft])), (a 10, .inl (g 0, 6, .inl nm1)), (a 12, .inl (g 0, 128, .inl stk1)), (kc, .inl (g 0, 128, .inl (fun i => nI (C i)))), (kv, .inl (g 0, 128, .inl (fun i => nI (X i))))]) (wr := [(a 22, .inl (g 0, 7, .inl (fun i => nI (Q i)))), (a 23, .inl (g 2, 3024, .inl T1)), (a 1, .inr (2, [.ref (a 10), .ref (a 11), .ref (a 12), .ref kc, .ref kv, .ref kn, .ref km, .int (nI sz), .int ns, .int (nI ln), .int at1, .int ft])), (a 10, .inl (g 0, 6, .inl nm1)), (a 12, .inl (g 0, 128, .inl stk1)), (kc, .inl (g 0, 128, .inl (fun i => nI (C i)))), (kv, .inl (g 0, 128, .inl (fun i => nI (X i))))]) ⟨rfl, rfl⟩ (zk_rv (As := [.int (nI (zk_gre k)), .int (nI t)]) (rest := [.int (nI (zs_ph P S (zk_les k) t)), .int (nI k), .ref (a 2)]) (q0 := 0) (ci := 5) Z ((ct_X5_phase l D g τ a n hide ver (nI (zw (zw_ev (decide (0 < sz)) (zl_ev C X sz) P S Q hide) k + zw_p b k)) false P S (zk_gre k) t (by omega) (by exact w2.1) (by exact w2.2.1) (by exact w2.2.2) (by omega)) H.size) hK hT hA G [0, 1, 2] rfl (by decide) rfl rfl gX5_everLed_X5_phase rfl dvX5_phase ⟨by decide, by decide⟩ rfl hl.1 rfl (Nat.le_of_ble_eq_true rfl) dX5_everLed_90 ⟨Nat.zero_le _, Nat.zero_le _⟩) hA G [0, 1, 2] [3, 4, 5, 6, 7, 8, 9] [7, 8, 9, 0, 1, 2, 3, 4, 5, 6] rfl rfl (by decide) (by decide) (by decide) (fun _ => rfl) (fun r_90 _ H locs w_90 G => ?_)
          obtain rfl : r_90 = nI (zs_ph P S (zk_gre k) t) := w_90
          refine zk_ci (WF := fun uu => [(a 2, .inr (5, [.ref (a 20), .ref (a 21), .ref (a 22), .int (nI n), .int (nI hide), .ref (a 1), .ref (a 23), .ref (a 24), .int (nI ver), .int ((nI (zw (zw_ev (decide (0 < sz)) (zl_ev C X sz) P S Q hide) k + zw_p b k))), .int (zk_b false)])), (a 20, .inl (g 0, 7, .inl (fun i => nI (P i)))), (a 21, .inl (g 0, 7, .inl (fun i => nI (S i)))), (a 22, .inl (g 0, 7, .inl (fun i => nI (Q i)))), (a 23, .inl (g 2, 3024, .inl uu.1)), (a 1, .inr (2, [.ref (a 10), .ref (a 11), .ref (a 12), .ref kc, .ref kv, .ref kn, .ref km, .int (nI sz), .int ns, .int (nI ln), .int at1, .int ft])), (a 10, .inl (g 0, 6, .inl uu.2.1)), (a 12, .inl (g 0, 128, .inl uu.2.2)), (kc, .inl (g 0, 128, .inl (fun i => nI (C i)))), (kv, .inl (g 0, 128, .inl (fun i => nI (X i))))]) (wr := [(a 21, .inl (g 0, 7, .inl (fun i => nI (S i))))]) ⟨rfl, rfl⟩ (zk_rv (As := [.int (nI k), .int (nI (zs_ph P S (zk_les k) t)), .int (nI (zs_ph P S (zk_gre k) t))]) (rest := []) (q0 := 0) (ci := 5) Z ((ct_X5_look l D g τ a n hide ver (nI (zw (zw_ev (decide (0 < sz)) (zl_ev C X sz) P S Q hide) k + zw_p b k)) false P S Q T1 kc kv kn km sz ns ln at1 ft C X nm1 stk1 k (zs_ph P S (zk_les k) t) (zs_ph P S (zk_gre k) t) (by exact hwf) (by omega) (by exact hW) (by exact k21) (by exact kgn) (by exact zs_ph_lt w1.1) (by exact zs_ph_lt w2.1) (by exact ho)) H.size) hK hT hA G [0, 1, 3, 4, 5, 6, 7, 8, 9] rfl (by decide) rfl rfl gX5_everLed_X5_look rfl dvX5_look ⟨by decide, by decide⟩ rfl hl.1 rfl (Nat.le_of_ble_eq_true rfl) dX5_everLed_93 ⟨Nat.zero_le _, Nat.zero_le _⟩) hA G [0, 1, 3, 4, 5, 6, 7, 8, 9] [2] [1, 2, 0, 3, 4, 5, 6, 7, 8, 9] rfl rfl (by decide) (by decide) (by decide) (fun _ => rfl) (fun r_93 uu H locs w_93 G => ?_)
          obtain ⟨T1_93, nm1_93, stk1_93⟩ := uu
          have G : zk_G D aA [(a 2, .inr (5, [.ref (a 20), .ref (a 21), .ref (a 22), .int (nI n), .int (nI hide), .ref (a 1), .ref (a 23), .ref (a 24), .int (nI ver), .int ((nI (zw (zw_ev (decide (0 < sz)) (zl_ev C X sz) P S Q hide) k + zw_p b k))), .int (zk_b false)])), (a 20, .inl (g 0, 7, .inl (fun i => nI (P i)))), (a 21, .inl (g 0, 7, .inl (fun i => nI (S i)))), (a 22, .inl (g 0, 7, .inl (fun i => nI (Q i)))), (a 23, .inl (g 2, 3024, .inl T1_93)), (a 1, .inr (2, [.ref (a 10), .ref (a 11), .ref (a 12), .ref kc, .ref kv, .ref kn, .ref km, .int (nI sz), .int ns, .int (nI ln), .int at1, .int ft])), (a 10, .inl (g 0, 6, .inl nm1_93)), (a 12, .inl (g 0, 128, .inl stk1_93)), (kc, .inl (g 0, 128, .inl (fun i => nI (C i)))), (kv, .inl (g 0, 128, .inl (fun i => nI (X i))))] sS H locs := G
          obtain ⟨h0_93, w_93⟩ := w_93
          obtain rfl : r_93 = zk_b (zs_sk (decide (0 < sz)) (zl_ev C X sz) P Q hide k (zs_ph P S (zk_les k) t) (zs_ph P S (zk_gre k) t)) := h0_93
          have ho_ := w_93
          have hs : zs_sk (decide (0 < sz)) (zl_ev C X sz) P Q hide k (zs_ph P S (zk_les k) t) (zs_ph P S (zk_gre k) t) = zs_sT (decide (0 < sz)) (zl_ev C X sz) P S Q hide t k := rfl
          refine lv_if_eq (tgt := 112) Z.1 Z.2.1 dX5_everLed_96 (by decide) (fun c96 => ?_) (fun c96 => ?_)
          · have c96 : zs_sk (decide (0 < sz)) (zl_ev C X sz) P Q hide k (zs_ph P S (zk_les k) t) (zs_ph P S (zk_gre k) t) = false := zk_b0.mp c96
            have G : zk_G D aA [(a 2, .inr (5, [.ref (a 20), .ref (a 21), .ref (a 22), .int (nI n), .int (nI hide), .ref (a 1), .ref (a 23), .ref (a 24), .int (nI ver), .int ((nI (zw (zw_ev (decide (0 < sz)) (zl_ev C X sz) P S Q hide) k + zw_p false k))), .int (zk_b false)])), (a 20, .inl (g 0, 7, .inl (fun i => nI (P i)))), (a 21, .inl (g 0, 7, .inl (fun i => nI (S i)))), (a 22, .inl (g 0, 7, .inl (fun i => nI (Q i)))), (a 23, .inl (g 2, 3024, .inl T1_93)), (a 1, .inr (2, [.ref (a 10), .ref (a 11), .ref (a 12), .ref kc, .ref kv, .ref kn, .ref km, .int (nI sz), .int ns, .int (nI ln), .int at1, .int ft])), (a 10, .inl (g 0, 6, .inl nm1_93)), (a 12, .inl (g 0, 128, .inl stk1_93)), (kc, .inl (g 0, 128, .inl (fun i => nI (C i)))), (kv, .inl (g 0, 128, .inl (fun i => nI (X i))))] sS H locs := (by rw [hbv] at G; exact G)
            refine lv_iinc (v := nI (t + 1)) (lv' := [(6, .int (nI (t + 1))), (0, .ref (a 2)), (1, .int (nI p1)), (2, .int (nI q1)), (3, .int (nI (n * (n - 1) / 2))), (4, .int (nI k)), (5, .int (nI (zs_lcm (P (zk_les k)) (P (zk_gre k)))))]) Z.1 Z.2.1 dX5_everLed_112 hl (k := 6) rfl (zk_inc t 1) (by decide) rfl (fun ls hl => ?_)
            refine lv_goto (tgt := 47) Z.1 Z.2.1 dX5_everLed_115 (by decide) ?_
            exact ih47 (t + 1) false T1_93 nm1_93 stk1_93 (by omega) (by omega) (by simp only [zw_any]; rw [← hb, hbv, ← hs, c96]; rfl) (by exact ho_) _ _ _ G (lv_sub hl [1, 2, 3, 4, 5, 6, 0] rfl)
          have c96 : zs_sk (decide (0 < sz)) (zl_ev C X sz) P Q hide k (zs_ph P S (zk_les k) t) (zs_ph P S (zk_gre k) t) = true := zk_b1.mp c96
          refine lv_aload_n Z.1 Z.2.1 dX5_everLed_99 rfl (lv_at hl 0 rfl) ?_
          refine lv_dup Z.1 Z.2.1 dX5_everLed_100 rfl ?_
          refine zk_get (C := RX5) (T := TX5) (N := 11) (ci := 5) Z hK G hinX5 0 rfl rfl 9 (by decide) (List.mem_of_getElem? (i := 2) rfl) rfl (v := .int ((nI (zw (zw_ev (decide (0 < sz)) (zl_ev C X sz) P S Q hide) k + zw_p b k)))) rfl dX5_everLed_101 ?_
          refine lv_iconst (v := nI 1) Z.1 Z.2.1 dX5_everLed_104 (by decide +kernel) ?_
          refine lv_iload Z.1 Z.2.1 dX5_everLed_105 (lv_at hl 4 rfl) ?_
          refine zk_ishl Z dX5_everLed_107 (z := nI (2 ^ k)) (zw_1 (by omega)) ?_
          refine zk_ior Z dX5_everLed_108 (z := nI (zw (zw_ev (decide (0 < sz)) (zl_ev C X sz) P S Q hide) k + zw_p true k)) (by rw [hbv]; exact (zw_or _ _).trans (congrArg nI (zw_or1 (zw_ev (decide (0 < sz)) (zl_ev C X sz) P S Q hide) k))) ?_
          refine zk_put tyX5 tyX5_ok nmX5 (C := RX5) (T := TX5) (N := 11) (ci := 5) Z hK G hinX5 0 rfl rfl 9 (by decide) (List.mem_of_getElem? (i := 2) rfl) rfl rfl rfl rfl (Nat.le_of_ble_eq_true rfl) (ws' := [(a 2, .inr (5, [.ref (a 20), .ref (a 21), .ref (a 22), .int (nI n), .int (nI hide), .ref (a 1), .ref (a 23), .ref (a 24), .int (nI ver), .int (nI (zw (zw_ev (decide (0 < sz)) (zl_ev C X sz) P S Q hide) k + zw_p true k)), .int (zk_b false)])), (a 20, .inl (g 0, 7, .inl (fun i => nI (P i)))), (a 21, .inl (g 0, 7, .inl (fun i => nI (S i)))), (a 22, .inl (g 0, 7, .inl (fun i => nI (Q i)))), (a 23, .inl (g 2, 3024, .inl T1_93)), (a 1, .inr (2, [.ref (a 10), .ref (a 11), .ref (a 12), .ref kc, .ref kv, .ref kn, .ref km, .int (nI sz), .int ns, .int (nI ln), .int at1, .int ft])), (a 10, .inl (g 0, 6, .inl nm1_93)), (a 12, .inl (g 0, 128, .inl stk1_93)), (kc, .inl (g 0, 128, .inl (fun i => nI (C i)))), (kv, .inl (g 0, 128, .inl (fun i => nI (X i))))]) rfl dX5_everLed_109 (fun H locs G => ?_)
          refine lv_iinc (v := nI (t + 1)) (lv' := [(6, .int (nI (t + 1))), (0, .ref (a 2)), (1, .int (nI p1)), (2, .int (nI q1)), (3, .int (nI (n * (n - 1) / 2))), (4, .int (nI k)), (5, .int (nI (zs_lcm (P (zk_les k)) (P (zk_gre k)))))]) Z.1 Z.2.1 dX5_everLed_112 hl (k := 6) rfl (zk_inc t 1) (by decide) rfl (fun ls hl => ?_)
          refine lv_goto (tgt := 47) Z.1 Z.2.1 dX5_everLed_115 (by decide) ?_
          exact ih47 (t + 1) true T1_93 nm1_93 stk1_93 (by omega) (by omega) (by simp only [zw_any]; rw [← hs, c96, Bool.or_true]) (by exact ho_) _ _ _ G (lv_sub hl [1, 2, 3, 4, 5, 6, 0] rfl)
      exact L47 _ 0 false T1 nm1 stk1 (Nat.lt_succ_self _) (by omega) (by rfl) (by exact ho) _ _ _ G (lv_sub hl [2, 3, 4, 5, 6, 1, 0] rfl)
  exact L20 _ 0 T nm stk (Nat.lt_succ_self _) (by omega) (by exact hok) _ _ _ G (lv_sub hl [2, 3, 4, 1, 0] rfl)

abbrev rm_X5_lawful : Room := { frames := 2, cells := 0, slots := 0, locals := 66 }
theorem dvX5_lawful : zk_dv yX5_lawful RX5 3 := by decide +kernel
set_option maxRecDepth 100000 in
set_option maxHeartbeats 4000000 in
theorem ct_X5_lawful (l : Launch) (D : va_G) (g : Nat → ClassId) (τ : Nat → Nat) (a : Nat → Nat) (n : Nat) (hide : Nat) (ver : Nat) (ew : Int32) (ek : Bool) (P : Nat → Nat) (S : Nat → Nat) (Q : Nat → Nat) (kc : Nat) (kv : Nat) (kn : Nat) (km : Nat) (sz : Nat) (ns : Int32) (ln : Nat) (at1 : Int32) (ft : Int32) (C : Nat → Nat) (X : Nat → Nat) (nm : Nat → Int32) (stk : Nat → Int32) (k : Nat) (pa : Nat) (pb : Nat) (hwf : zl_wf C X sz) (hhi : hide ≤ 180) (hW : zs_W n P S) (hk : k < 21) (hkn : zk_gre k < n) (hpa : pa < P (zk_les k)) (hpb : pb < P (zk_gre k)) : zk_MI l D g τ yX5_lawful wsX5_lawful rm_X5_lawful [.ref (a 2), .int (nI k), .int (nI pa), .int (nI pb)] [(a 2, .inr (5, [.ref (a 20), .ref (a 21), .ref (a 22), .int (nI n), .int (nI hide), .ref (a 1), .ref (a 23), .ref (a 24), .int (nI ver), .int ew, .int (zk_b ek)])), (a 20, .inl (g 0, 7, .inl (fun i => nI (P i)))), (a 22, .inl (g 0, 7, .inl (fun i => nI (Q i)))), (a 1, .inr (2, [.ref (a 10), .ref (a 11), .ref (a 12), .ref kc, .ref kv, .ref kn, .ref km, .int (nI sz), .int ns, .int (nI ln), .int at1, .int ft])), (a 10, .inl (g 0, 6, .inl nm)), (a 12, .inl (g 0, 128, .inl stk)), (kc, .inl (g 0, 128, .inl (fun i => nI (C i)))), (kv, .inl (g 0, 128, .inl (fun i => nI (X i))))] (fun (r : Int32) (uu : (Nat → Int32) × (Nat → Int32)) => r = zk_b (zs_sk (decide (0 < sz)) (zl_ev C X sz) P Q hide k pa pb)) (fun (uu : (Nat → Int32) × (Nat → Int32)) => [(a 2, .inr (5, [.ref (a 20), .ref (a 21), .ref (a 22), .int (nI n), .int (nI hide), .ref (a 1), .ref (a 23), .ref (a 24), .int (nI ver), .int ew, .int (zk_b ek)])), (a 20, .inl (g 0, 7, .inl (fun i => nI (P i)))), (a 22, .inl (g 0, 7, .inl (fun i => nI (Q i)))), (a 1, .inr (2, [.ref (a 10), .ref (a 11), .ref (a 12), .ref kc, .ref kv, .ref kn, .ref km, .int (nI sz), .int ns, .int (nI ln), .int at1, .int ft])), (a 10, .inl (g 0, 6, .inl uu.1)), (a 12, .inl (g 0, 128, .inl uu.2)), (kc, .inl (g 0, 128, .inl (fun i => nI (C i)))), (kv, .inl (g 0, 128, .inl (fun i => nI (X i))))]) := by
  refine zk_of (Qc := fun A => va_Qi (fun (r : Int32) (uu : (Nat → Int32) × (Nat → Int32)) => r = zk_b (zs_sk (decide (0 < sz)) (zl_ev C X sz) P Q hide k pa pb)) (zk_B D g A (fun (uu : (Nat → Int32) × (Nat → Int32)) => [(a 2, .inr (5, [.ref (a 20), .ref (a 21), .ref (a 22), .int (nI n), .int (nI hide), .ref (a 1), .ref (a 23), .ref (a 24), .int (nI ver), .int ew, .int (zk_b ek)])), (a 20, .inl (g 0, 7, .inl (fun i => nI (P i)))), (a 22, .inl (g 0, 7, .inl (fun i => nI (Q i)))), (a 1, .inr (2, [.ref (a 10), .ref (a 11), .ref (a 12), .ref kc, .ref kv, .ref kn, .ref km, .int (nI sz), .int ns, .int (nI ln), .int at1, .int ft])), (a 10, .inl (g 0, 6, .inl uu.1)), (a 12, .inl (g 0, 128, .inl uu.2)), (kc, .inl (g 0, 128, .inl (fun i => nI (C i)))), (kv, .inl (g 0, 128, .inl (fun i => nI (X i))))])) A) (cc := cX5_lawful) (maxL := 11) (ret := (some .boolean)) (own := RX5) (by decide) rfl rfl (Nat.le_of_ble_eq_true rfl) ?_
  intro pP eE sS mM args below meth cC aA ls qQ Z hR_ hlk hnm hK hT hA hQ G hl
  have hinX2 : ∀ w ∈ u_ws RX2 TX2 12, w ∈ wsX5_lawful := (fun _ h => List.mem_cons_of_mem _ (List.mem_append_right _ h))
  have hinX5 : ∀ w ∈ u_ws RX5 TX5 11, w ∈ wsX5_lawful := (fun _ h => List.mem_cons_of_mem _ (List.mem_append_left _ (List.mem_append_right _ h)))
  have q1 := zk_les_gre hk
  have q2 := zk_les_lt k
  have q3 := zk_gre_lt k
  have q4 := hW.2 (zk_les k) (by omega)
  have q5 := hW.2 (zk_gre k) hkn
  have q6 := zs_pl_lt hpa
  have q7 := zs_pl_lt hpb
  have q8 := zs_far_lt q6 q7
  have q9 := hwf.1
  have q10 : zs_ap (zs_pl P (zk_les k) pa) (zs_pl P (zk_gre k) pb) < 360 := Nat.lt_of_le_of_lt (Nat.min_le_left _ _) q8
  refine zk_gets Z G hT.1 (List.mem_of_getElem? (i := 1) rfl) dX5_lawful_0 ?_
  refine lv_iload_n Z.1 Z.2.1 dX5_lawful_3 rfl (lv_at hl 1 rfl) ?_
  refine zk_ti Z G hT.1 (k := k) (by omega) (by decide) (v := .int (nI (zk_les k))) rfl dX5_lawful_4 ?_
  refine lv_istore (lv' := [(4, .int (nI (zk_les k))), (0, .ref (a 2)), (1, .int (nI k)), (2, .int (nI pa)), (3, .int (nI pb))]) Z.1 Z.2.1 dX5_lawful_5 hl (by decide) rfl (fun ls hl => ?_)
  refine zk_gets Z G hT.2.1 (List.mem_of_getElem? (i := 2) rfl) dX5_lawful_7 ?_
  refine lv_iload_n Z.1 Z.2.1 dX5_lawful_10 rfl (lv_at hl 2 rfl) ?_
  refine zk_ti Z G hT.2.1 (k := k) (by omega) (by decide) (v := .int (nI (zk_gre k))) rfl dX5_lawful_11 ?_
  refine lv_istore (lv' := [(5, .int (nI (zk_gre k))), (4, .int (nI (zk_les k))), (0, .ref (a 2)), (1, .int (nI k)), (2, .int (nI pa)), (3, .int (nI pb))]) Z.1 Z.2.1 dX5_lawful_12 hl (by decide) rfl (fun ls hl => ?_)
  refine lv_aload_n Z.1 Z.2.1 dX5_lawful_14 rfl (lv_at hl 2 rfl) ?_
  refine lv_iload Z.1 Z.2.1 dX5_lawful_15 (lv_at hl 1 rfl) ?_
  refine lv_iload_n Z.1 Z.2.1 dX5_lawful_17 rfl (lv_at hl 4 rfl) ?_
  refine zk_ci (WF := fun (_ : Unit) => [(a 2, .inr (5, [.ref (a 20), .ref (a 21), .ref (a 22), .int (nI n), .int (nI hide), .ref (a 1), .ref (a 23), .ref (a 24), .int (nI ver), .int ew, .int (zk_b ek)])), (a 20, .inl (g 0, 7, .inl (fun i => nI (P i)))), (a 22, .inl (g 0, 7, .inl (fun i => nI (Q i)))), (a 1, .inr (2, [.ref (a 10), .ref (a 11), .ref (a 12), .ref kc, .ref kv, .ref kn, .ref km, .int (nI sz), .int ns, .int (nI ln), .int at1, .int ft])), (a 10, .inl (g 0, 6, .inl nm)), (a 12, .inl (g 0, 128, .inl stk)), (kc, .inl (g 0, 128, .inl (fun i => nI (C i)))), (kv, .inl (g 0, 128, .inl (fun i => nI (X i))))]) (wr := [(a 22, .inl (g 0, 7, .inl (fun i => nI (Q i)))), (a 1, .inr (2, [.ref (a 10), .ref (a 11), .ref (a 12), .ref kc, .ref kv, .ref kn, .ref km, .int (nI sz), .int ns, .int (nI ln), .int at1, .int ft])), (a 10, .inl (g 0, 6, .inl nm)), (a 12, .inl (g 0, 128, .inl stk)), (kc, .inl (g 0, 128, .inl (fun i => nI (C i)))), (kv, .inl (g 0, 128, .inl (fun i => nI (X i))))]) ⟨rfl, rfl⟩ (zk_rv (As := [.int (nI (zk_les k)), .int (nI pa)]) (rest := []) (q0 := 0) (ci := 5) Z ((ct_X5_placeIn l D g τ a n hide ver ew ek P (zk_les k) pa (by omega) (by omega) (by omega) (by omega)) sS.heap.size) hK hT hA G [0, 1] rfl (by decide) rfl rfl gX5_lawful_X5_placeIn rfl dvX5_placeIn ⟨by decide, by decide⟩ rfl hl.1 rfl (Nat.le_of_ble_eq_true rfl) dX5_lawful_18 ⟨Nat.zero_le _, Nat.zero_le _⟩) hA G [0, 1] [2, 3, 4, 5, 6, 7] [6, 7, 0, 1, 2, 3, 4, 5] rfl rfl (by decide) (by decide) (by decide) (fun _ => rfl) (fun r_18 _ H locs w_18 G => ?_)
  obtain rfl : r_18 = nI (zs_pl P (zk_les k) pa) := w_18
  refine lv_istore (lv' := [(6, .int (nI (zs_pl P (zk_les k) pa))), (5, .int (nI (zk_gre k))), (4, .int (nI (zk_les k))), (0, .ref (a 2)), (1, .int (nI k)), (2, .int (nI pa)), (3, .int (nI pb))]) Z.1 Z.2.1 dX5_lawful_21 hl (by decide) rfl (fun ls hl => ?_)
  refine lv_aload_n Z.1 Z.2.1 dX5_lawful_23 rfl (lv_at hl 3 rfl) ?_
  refine lv_iload Z.1 Z.2.1 dX5_lawful_24 (lv_at hl 1 rfl) ?_
  refine lv_iload_n Z.1 Z.2.1 dX5_lawful_26 rfl (lv_at hl 6 rfl) ?_
  refine zk_ci (WF := fun (_ : Unit) => [(a 2, .inr (5, [.ref (a 20), .ref (a 21), .ref (a 22), .int (nI n), .int (nI hide), .ref (a 1), .ref (a 23), .ref (a 24), .int (nI ver), .int ew, .int (zk_b ek)])), (a 20, .inl (g 0, 7, .inl (fun i => nI (P i)))), (a 22, .inl (g 0, 7, .inl (fun i => nI (Q i)))), (a 1, .inr (2, [.ref (a 10), .ref (a 11), .ref (a 12), .ref kc, .ref kv, .ref kn, .ref km, .int (nI sz), .int ns, .int (nI ln), .int at1, .int ft])), (a 10, .inl (g 0, 6, .inl nm)), (a 12, .inl (g 0, 128, .inl stk)), (kc, .inl (g 0, 128, .inl (fun i => nI (C i)))), (kv, .inl (g 0, 128, .inl (fun i => nI (X i))))]) (wr := [(a 22, .inl (g 0, 7, .inl (fun i => nI (Q i)))), (a 1, .inr (2, [.ref (a 10), .ref (a 11), .ref (a 12), .ref kc, .ref kv, .ref kn, .ref km, .int (nI sz), .int ns, .int (nI ln), .int at1, .int ft])), (a 10, .inl (g 0, 6, .inl nm)), (a 12, .inl (g 0, 128, .inl stk)), (kc, .inl (g 0, 128, .inl (fun i => nI (C i)))), (kv, .inl (g 0, 128, .inl (fun i => nI (X i))))]) ⟨rfl, rfl⟩ (zk_rv (As := [.int (nI (zk_gre k)), .int (nI pb)]) (rest := []) (q0 := 0) (ci := 5) Z ((ct_X5_placeIn l D g τ a n hide ver ew ek P (zk_gre k) pb (by omega) (by omega) (by omega) (by omega)) H.size) hK hT hA G [0, 1] rfl (by decide) rfl rfl gX5_lawful_X5_placeIn rfl dvX5_placeIn ⟨by decide, by decide⟩ rfl hl.1 rfl (Nat.le_of_ble_eq_true rfl) dX5_lawful_27 ⟨Nat.zero_le _, Nat.zero_le _⟩) hA G [0, 1] [2, 3, 4, 5, 6, 7] [6, 7, 0, 1, 2, 3, 4, 5] rfl rfl (by decide) (by decide) (by decide) (fun _ => rfl) (fun r_27 _ H locs w_27 G => ?_)
  obtain rfl : r_27 = nI (zs_pl P (zk_gre k) pb) := w_27
  refine lv_istore (lv' := [(7, .int (nI (zs_pl P (zk_gre k) pb))), (6, .int (nI (zs_pl P (zk_les k) pa))), (5, .int (nI (zk_gre k))), (4, .int (nI (zk_les k))), (0, .ref (a 2)), (1, .int (nI k)), (2, .int (nI pa)), (3, .int (nI pb))]) Z.1 Z.2.1 dX5_lawful_30 hl (by decide) rfl (fun ls hl => ?_)
  refine lv_iload Z.1 Z.2.1 dX5_lawful_32 (lv_at hl 1 rfl) ?_
  refine lv_iload Z.1 Z.2.1 dX5_lawful_34 (lv_at hl 0 rfl) ?_
  refine zk_isub Z dX5_lawful_36 (z := nI (zs_pl P (zk_les k) pa) - nI (zs_pl P (zk_gre k) pb)) rfl ?_
  refine zk_abs Z hl.1 (List.mem_of_getElem? (i := 3) rfl) (List.mem_of_getElem? (i := 4) rfl) (List.mem_of_getElem? (i := 5) rfl) (List.mem_of_getElem? (i := 6) rfl) (by decide) (by decide) (Nat.zero_le _) (Nat.zero_le _) (z := nI (zs_far (zs_pl P (zk_les k) pa) (zs_pl P (zk_gre k) pb))) (zs_abs (by omega) (by omega)) dX5_lawful_37 ?_
  refine lv_istore (lv' := [(8, .int (nI (zs_far (zs_pl P (zk_les k) pa) (zs_pl P (zk_gre k) pb)))), (7, .int (nI (zs_pl P (zk_gre k) pb))), (6, .int (nI (zs_pl P (zk_les k) pa))), (5, .int (nI (zk_gre k))), (4, .int (nI (zk_les k))), (0, .ref (a 2)), (1, .int (nI k)), (2, .int (nI pa)), (3, .int (nI pb))]) Z.1 Z.2.1 dX5_lawful_40 hl (by decide) rfl (fun ls hl => ?_)
  refine lv_iload Z.1 Z.2.1 dX5_lawful_42 (lv_at hl 0 rfl) ?_
  refine lv_sipush (v := nI 360) Z.1 Z.2.1 dX5_lawful_44 (by decide +kernel) ?_
  refine lv_iload Z.1 Z.2.1 dX5_lawful_47 (lv_at hl 0 rfl) ?_
  refine zk_isub Z dX5_lawful_49 (z := nI (360 - (zs_far (zs_pl P (zk_les k) pa) (zs_pl P (zk_gre k) pb)))) (pk_sub (by omega)) ?_
  refine zk_min Z hl.1 (List.mem_of_getElem? (i := 7) rfl) (List.mem_of_getElem? (i := 8) rfl) (List.mem_of_getElem? (i := 5) rfl) (List.mem_of_getElem? (i := 9) rfl) (by decide) (by decide) (Nat.zero_le _) (Nat.zero_le _) (z := nI (zs_ap (zs_pl P (zk_les k) pa) (zs_pl P (zk_gre k) pb))) (zk_nmin (by omega) (by omega)) dX5_lawful_50 ?_
  refine lv_istore (lv' := [(9, .int (nI (zs_ap (zs_pl P (zk_les k) pa) (zs_pl P (zk_gre k) pb)))), (8, .int (nI (zs_far (zs_pl P (zk_les k) pa) (zs_pl P (zk_gre k) pb)))), (7, .int (nI (zs_pl P (zk_gre k) pb))), (6, .int (nI (zs_pl P (zk_les k) pa))), (5, .int (nI (zk_gre k))), (4, .int (nI (zk_les k))), (0, .ref (a 2)), (1, .int (nI k)), (2, .int (nI pa)), (3, .int (nI pb))]) Z.1 Z.2.1 dX5_lawful_53 hl (by decide) rfl (fun ls hl => ?_)
  refine lv_aload_n Z.1 Z.2.1 dX5_lawful_55 rfl (lv_at hl 6 rfl) ?_
  refine zk_get (C := RX5) (T := TX5) (N := 11) (ci := 5) Z hK G hinX5 0 rfl rfl 5 (by decide) (List.mem_of_getElem? (i := 10) rfl) rfl (v := .ref (a 1)) rfl dX5_lawful_56 ?_
  refine zk_ci (WF := fun (_ : Unit) => [(a 2, .inr (5, [.ref (a 20), .ref (a 21), .ref (a 22), .int (nI n), .int (nI hide), .ref (a 1), .ref (a 23), .ref (a 24), .int (nI ver), .int ew, .int (zk_b ek)])), (a 20, .inl (g 0, 7, .inl (fun i => nI (P i)))), (a 22, .inl (g 0, 7, .inl (fun i => nI (Q i)))), (a 1, .inr (2, [.ref (a 10), .ref (a 11), .ref (a 12), .ref kc, .ref kv, .ref kn, .ref km, .int (nI sz), .int ns, .int (nI ln), .int at1, .int ft])), (a 10, .inl (g 0, 6, .inl nm)), (a 12, .inl (g 0, 128, .inl stk)), (kc, .inl (g 0, 128, .inl (fun i => nI (C i)))), (kv, .inl (g 0, 128, .inl (fun i => nI (X i))))]) (wr := [(a 2, .inr (5, [.ref (a 20), .ref (a 21), .ref (a 22), .int (nI n), .int (nI hide), .ref (a 1), .ref (a 23), .ref (a 24), .int (nI ver), .int ew, .int (zk_b ek)])), (a 20, .inl (g 0, 7, .inl (fun i => nI (P i)))), (a 22, .inl (g 0, 7, .inl (fun i => nI (Q i)))), (a 10, .inl (g 0, 6, .inl nm)), (a 12, .inl (g 0, 128, .inl stk)), (kc, .inl (g 0, 128, .inl (fun i => nI (C i)))), (kv, .inl (g 0, 128, .inl (fun i => nI (X i))))]) ⟨rfl, rfl⟩ (zk_rv (As := []) (rest := []) (q0 := 3) (ci := 2) Z ((ct_X2_isTold l D g τ a kc kv kn km sz ns ln at1 ft (by omega)) H.size) hK hT hA G [3] rfl (by decide) rfl rfl gX5_lawful_X2_isTold rfl dvX2_isTold ⟨by decide, by decide⟩ rfl hl.1 rfl (Nat.le_of_ble_eq_true rfl) dX5_lawful_59 ⟨Nat.zero_le _, Nat.zero_le _⟩) hA G [3] [0, 1, 2, 4, 5, 6, 7] [0, 1, 2, 7, 3, 4, 5, 6] rfl rfl (by decide) (by decide) (by decide) (fun _ => rfl) (fun r_59 _ H locs w_59 G => ?_)
  obtain rfl : r_59 = zk_b (decide (0 < sz)) := w_59
  refine lv_if_ne (tgt := 84) Z.1 Z.2.1 dX5_lawful_62 (by decide) (fun c62 => ?_) (fun c62 => ?_)
  · have c62 : decide (0 < sz) = true := zk_b1.mp c62
    refine lv_aload_n Z.1 Z.2.1 dX5_lawful_84 rfl (lv_at hl 6 rfl) ?_
    refine zk_get (C := RX5) (T := TX5) (N := 11) (ci := 5) Z hK G hinX5 0 rfl rfl 5 (by decide) (List.mem_of_getElem? (i := 10) rfl) rfl (v := .ref (a 1)) rfl dX5_lawful_85 ?_
    refine zk_get (C := RX2) (T := TX2) (N := 12) (ci := 2) Z hK G hinX2 3 rfl rfl 0 (by decide) (List.mem_of_getElem? (i := 12) rfl) rfl (v := .ref (a 10)) rfl dX5_lawful_88 ?_
    refine lv_astore (lv' := [(10, .ref (a 10)), (9, .int (nI (zs_ap (zs_pl P (zk_les k) pa) (zs_pl P (zk_gre k) pb)))), (8, .int (nI (zs_far (zs_pl P (zk_les k) pa) (zs_pl P (zk_gre k) pb)))), (7, .int (nI (zs_pl P (zk_gre k) pb))), (6, .int (nI (zs_pl P (zk_les k) pa))), (5, .int (nI (zk_gre k))), (4, .int (nI (zk_les k))), (0, .ref (a 2)), (1, .int (nI k)), (2, .int (nI pa)), (3, .int (nI pb))]) Z.1 Z.2.1 dX5_lawful_91 hl (by decide) rfl (fun ls hl => ?_)
    refine lv_aload Z.1 Z.2.1 dX5_lawful_93 (lv_at hl 0 rfl) ?_
    refine lv_iconst (v := nI 0) Z.1 Z.2.1 dX5_lawful_95 (by decide +kernel) ?_
    refine lv_iload Z.1 Z.2.1 dX5_lawful_96 (lv_at hl 1 rfl) ?_
    refine zk_iast Z hK G 4 rfl (k := 0) (by omega) (by decide) rfl (ws' := [(a 2, .inr (5, [.ref (a 20), .ref (a 21), .ref (a 22), .int (nI n), .int (nI hide), .ref (a 1), .ref (a 23), .ref (a 24), .int (nI ver), .int ew, .int (zk_b ek)])), (a 20, .inl (g 0, 7, .inl (fun i => nI (P i)))), (a 22, .inl (g 0, 7, .inl (fun i => nI (Q i)))), (a 1, .inr (2, [.ref (a 10), .ref (a 11), .ref (a 12), .ref kc, .ref kv, .ref kn, .ref km, .int (nI sz), .int ns, .int (nI ln), .int at1, .int ft])), (a 10, .inl (g 0, 6, .inl (upd nm 0 (nI (zs_ap (zs_pl P (zk_les k) pa) (zs_pl P (zk_gre k) pb)))))), (a 12, .inl (g 0, 128, .inl stk)), (kc, .inl (g 0, 128, .inl (fun i => nI (C i)))), (kv, .inl (g 0, 128, .inl (fun i => nI (X i))))]) rfl dX5_lawful_98 (fun H locs G => ?_)
    refine lv_aload Z.1 Z.2.1 dX5_lawful_99 (lv_at hl 0 rfl) ?_
    refine lv_iconst (v := nI 1) Z.1 Z.2.1 dX5_lawful_101 (by decide +kernel) ?_
    refine lv_aload_n Z.1 Z.2.1 dX5_lawful_102 rfl (lv_at hl 7 rfl) ?_
    refine zk_get (C := RX5) (T := TX5) (N := 11) (ci := 5) Z hK G hinX5 0 rfl rfl 2 (by decide) (List.mem_of_getElem? (i := 13) rfl) rfl (v := .ref (a 22)) rfl dX5_lawful_103 ?_
    refine lv_iload Z.1 Z.2.1 dX5_lawful_106 (lv_at hl 6 rfl) ?_
    refine zk_iald Z hK G 2 rfl (k := zk_les k) (by omega) (by decide) (v := nI (Q (zk_les k))) rfl dX5_lawful_108 ?_
    refine zk_iast Z hK G 4 rfl (k := 1) (by omega) (by decide) rfl (ws' := [(a 2, .inr (5, [.ref (a 20), .ref (a 21), .ref (a 22), .int (nI n), .int (nI hide), .ref (a 1), .ref (a 23), .ref (a 24), .int (nI ver), .int ew, .int (zk_b ek)])), (a 20, .inl (g 0, 7, .inl (fun i => nI (P i)))), (a 22, .inl (g 0, 7, .inl (fun i => nI (Q i)))), (a 1, .inr (2, [.ref (a 10), .ref (a 11), .ref (a 12), .ref kc, .ref kv, .ref kn, .ref km, .int (nI sz), .int ns, .int (nI ln), .int at1, .int ft])), (a 10, .inl (g 0, 6, .inl (upd (upd nm 0 (nI (zs_ap (zs_pl P (zk_les k) pa) (zs_pl P (zk_gre k) pb)))) 1 (nI (Q (zk_les k)))))), (a 12, .inl (g 0, 128, .inl stk)), (kc, .inl (g 0, 128, .inl (fun i => nI (C i)))), (kv, .inl (g 0, 128, .inl (fun i => nI (X i))))]) rfl dX5_lawful_109 (fun H locs G => ?_)
    refine lv_aload Z.1 Z.2.1 dX5_lawful_110 (lv_at hl 0 rfl) ?_
    refine lv_iconst (v := nI 2) Z.1 Z.2.1 dX5_lawful_112 (by decide +kernel) ?_
    refine lv_aload_n Z.1 Z.2.1 dX5_lawful_113 rfl (lv_at hl 7 rfl) ?_
    refine zk_get (C := RX5) (T := TX5) (N := 11) (ci := 5) Z hK G hinX5 0 rfl rfl 2 (by decide) (List.mem_of_getElem? (i := 13) rfl) rfl (v := .ref (a 22)) rfl dX5_lawful_114 ?_
    refine lv_iload Z.1 Z.2.1 dX5_lawful_117 (lv_at hl 5 rfl) ?_
    refine zk_iald Z hK G 2 rfl (k := zk_gre k) (by omega) (by decide) (v := nI (Q (zk_gre k))) rfl dX5_lawful_119 ?_
    refine zk_iast Z hK G 4 rfl (k := 2) (by omega) (by decide) rfl (ws' := [(a 2, .inr (5, [.ref (a 20), .ref (a 21), .ref (a 22), .int (nI n), .int (nI hide), .ref (a 1), .ref (a 23), .ref (a 24), .int (nI ver), .int ew, .int (zk_b ek)])), (a 20, .inl (g 0, 7, .inl (fun i => nI (P i)))), (a 22, .inl (g 0, 7, .inl (fun i => nI (Q i)))), (a 1, .inr (2, [.ref (a 10), .ref (a 11), .ref (a 12), .ref kc, .ref kv, .ref kn, .ref km, .int (nI sz), .int ns, .int (nI ln), .int at1, .int ft])), (a 10, .inl (g 0, 6, .inl (upd (upd (upd nm 0 (nI (zs_ap (zs_pl P (zk_les k) pa) (zs_pl P (zk_gre k) pb)))) 1 (nI (Q (zk_les k)))) 2 (nI (Q (zk_gre k)))))), (a 12, .inl (g 0, 128, .inl stk)), (kc, .inl (g 0, 128, .inl (fun i => nI (C i)))), (kv, .inl (g 0, 128, .inl (fun i => nI (X i))))]) rfl dX5_lawful_120 (fun H locs G => ?_)
    refine lv_aload Z.1 Z.2.1 dX5_lawful_121 (lv_at hl 0 rfl) ?_
    refine lv_iconst (v := nI 3) Z.1 Z.2.1 dX5_lawful_123 (by decide +kernel) ?_
    refine lv_aload_n Z.1 Z.2.1 dX5_lawful_124 rfl (lv_at hl 7 rfl) ?_
    refine zk_get (C := RX5) (T := TX5) (N := 11) (ci := 5) Z hK G hinX5 0 rfl rfl 4 (by decide) (List.mem_of_getElem? (i := 11) rfl) rfl (v := .int (nI hide)) rfl dX5_lawful_125 ?_
    refine zk_iast Z hK G 4 rfl (k := 3) (by omega) (by decide) rfl (ws' := [(a 2, .inr (5, [.ref (a 20), .ref (a 21), .ref (a 22), .int (nI n), .int (nI hide), .ref (a 1), .ref (a 23), .ref (a 24), .int (nI ver), .int ew, .int (zk_b ek)])), (a 20, .inl (g 0, 7, .inl (fun i => nI (P i)))), (a 22, .inl (g 0, 7, .inl (fun i => nI (Q i)))), (a 1, .inr (2, [.ref (a 10), .ref (a 11), .ref (a 12), .ref kc, .ref kv, .ref kn, .ref km, .int (nI sz), .int ns, .int (nI ln), .int at1, .int ft])), (a 10, .inl (g 0, 6, .inl (upd (upd (upd (upd nm 0 (nI (zs_ap (zs_pl P (zk_les k) pa) (zs_pl P (zk_gre k) pb)))) 1 (nI (Q (zk_les k)))) 2 (nI (Q (zk_gre k)))) 3 (nI hide)))), (a 12, .inl (g 0, 128, .inl stk)), (kc, .inl (g 0, 128, .inl (fun i => nI (C i)))), (kv, .inl (g 0, 128, .inl (fun i => nI (X i))))]) rfl dX5_lawful_128 (fun H locs G => ?_)
    refine lv_aload Z.1 Z.2.1 dX5_lawful_129 (lv_at hl 0 rfl) ?_
    refine lv_iconst (v := nI 4) Z.1 Z.2.1 dX5_lawful_131 (by decide +kernel) ?_
    refine lv_iload Z.1 Z.2.1 dX5_lawful_132 (lv_at hl 4 rfl) ?_
    refine zk_iast Z hK G 4 rfl (k := 4) (by omega) (by decide) rfl (ws' := [(a 2, .inr (5, [.ref (a 20), .ref (a 21), .ref (a 22), .int (nI n), .int (nI hide), .ref (a 1), .ref (a 23), .ref (a 24), .int (nI ver), .int ew, .int (zk_b ek)])), (a 20, .inl (g 0, 7, .inl (fun i => nI (P i)))), (a 22, .inl (g 0, 7, .inl (fun i => nI (Q i)))), (a 1, .inr (2, [.ref (a 10), .ref (a 11), .ref (a 12), .ref kc, .ref kv, .ref kn, .ref km, .int (nI sz), .int ns, .int (nI ln), .int at1, .int ft])), (a 10, .inl (g 0, 6, .inl (upd (upd (upd (upd (upd nm 0 (nI (zs_ap (zs_pl P (zk_les k) pa) (zs_pl P (zk_gre k) pb)))) 1 (nI (Q (zk_les k)))) 2 (nI (Q (zk_gre k)))) 3 (nI hide)) 4 (nI (zs_pl P (zk_les k) pa))))), (a 12, .inl (g 0, 128, .inl stk)), (kc, .inl (g 0, 128, .inl (fun i => nI (C i)))), (kv, .inl (g 0, 128, .inl (fun i => nI (X i))))]) rfl dX5_lawful_134 (fun H locs G => ?_)
    refine lv_aload Z.1 Z.2.1 dX5_lawful_135 (lv_at hl 0 rfl) ?_
    refine lv_iconst (v := nI 5) Z.1 Z.2.1 dX5_lawful_137 (by decide +kernel) ?_
    refine lv_iload Z.1 Z.2.1 dX5_lawful_138 (lv_at hl 3 rfl) ?_
    refine zk_iast Z hK G 4 rfl (k := 5) (by omega) (by decide) rfl (ws' := [(a 2, .inr (5, [.ref (a 20), .ref (a 21), .ref (a 22), .int (nI n), .int (nI hide), .ref (a 1), .ref (a 23), .ref (a 24), .int (nI ver), .int ew, .int (zk_b ek)])), (a 20, .inl (g 0, 7, .inl (fun i => nI (P i)))), (a 22, .inl (g 0, 7, .inl (fun i => nI (Q i)))), (a 1, .inr (2, [.ref (a 10), .ref (a 11), .ref (a 12), .ref kc, .ref kv, .ref kn, .ref km, .int (nI sz), .int ns, .int (nI ln), .int at1, .int ft])), (a 10, .inl (g 0, 6, .inl (upd (upd (upd (upd (upd (upd nm 0 (nI (zs_ap (zs_pl P (zk_les k) pa) (zs_pl P (zk_gre k) pb)))) 1 (nI (Q (zk_les k)))) 2 (nI (Q (zk_gre k)))) 3 (nI hide)) 4 (nI (zs_pl P (zk_les k) pa))) 5 (nI (zs_pl P (zk_gre k) pb))))), (a 12, .inl (g 0, 128, .inl stk)), (kc, .inl (g 0, 128, .inl (fun i => nI (C i)))), (kv, .inl (g 0, 128, .inl (fun i => nI (X i))))]) rfl dX5_lawful_140 (fun H locs G => ?_)
    have G := zk_ext G 4 (f' := fun k9 => nI (zs_nm (zs_ap (zs_pl P (zk_les k) pa) (zs_pl P (zk_gre k) pb)) (Q (zk_les k)) (Q (zk_gre k)) hide (zs_pl P (zk_les k) pa) (zs_pl P (zk_gre k) pb) k9)) rfl zs_nm_ext (ws' := [(a 2, .inr (5, [.ref (a 20), .ref (a 21), .ref (a 22), .int (nI n), .int (nI hide), .ref (a 1), .ref (a 23), .ref (a 24), .int (nI ver), .int ew, .int (zk_b ek)])), (a 20, .inl (g 0, 7, .inl (fun i => nI (P i)))), (a 22, .inl (g 0, 7, .inl (fun i => nI (Q i)))), (a 1, .inr (2, [.ref (a 10), .ref (a 11), .ref (a 12), .ref kc, .ref kv, .ref kn, .ref km, .int (nI sz), .int ns, .int (nI ln), .int at1, .int ft])), (a 10, .inl (g 0, 6, .inl (fun k9 => nI (zs_nm (zs_ap (zs_pl P (zk_les k) pa) (zs_pl P (zk_gre k) pb)) (Q (zk_les k)) (Q (zk_gre k)) hide (zs_pl P (zk_les k) pa) (zs_pl P (zk_gre k) pb) k9)))), (a 12, .inl (g 0, 128, .inl stk)), (kc, .inl (g 0, 128, .inl (fun i => nI (C i)))), (kv, .inl (g 0, 128, .inl (fun i => nI (X i))))]) rfl
    refine lv_aload_n Z.1 Z.2.1 dX5_lawful_141 rfl (lv_at hl 7 rfl) ?_
    refine zk_get (C := RX5) (T := TX5) (N := 11) (ci := 5) Z hK G hinX5 0 rfl rfl 5 (by decide) (List.mem_of_getElem? (i := 10) rfl) rfl (v := .ref (a 1)) rfl dX5_lawful_142 ?_
    refine zk_ci (WF := fun stk1_145 => [(a 2, .inr (5, [.ref (a 20), .ref (a 21), .ref (a 22), .int (nI n), .int (nI hide), .ref (a 1), .ref (a 23), .ref (a 24), .int (nI ver), .int ew, .int (zk_b ek)])), (a 20, .inl (g 0, 7, .inl (fun i => nI (P i)))), (a 22, .inl (g 0, 7, .inl (fun i => nI (Q i)))), (a 1, .inr (2, [.ref (a 10), .ref (a 11), .ref (a 12), .ref kc, .ref kv, .ref kn, .ref km, .int (nI sz), .int ns, .int (nI ln), .int at1, .int ft])), (a 10, .inl (g 0, 6, .inl (fun k9 => nI (zs_nm (zs_ap (zs_pl P (zk_les k) pa) (zs_pl P (zk_gre k) pb)) (Q (zk_les k)) (Q (zk_gre k)) hide (zs_pl P (zk_les k) pa) (zs_pl P (zk_gre k) pb) k9)))), (a 12, .inl (g 0, 128, .inl stk1_145)), (kc, .inl (g 0, 128, .inl (fun i => nI (C i)))), (kv, .inl (g 0, 128, .inl (fun i => nI (X i))))]) (wr := [(a 2, .inr (5, [.ref (a 20), .ref (a 21), .ref (a 22), .int (nI n), .int (nI hide), .ref (a 1), .ref (a 23), .ref (a 24), .int (nI ver), .int ew, .int (zk_b ek)])), (a 20, .inl (g 0, 7, .inl (fun i => nI (P i)))), (a 22, .inl (g 0, 7, .inl (fun i => nI (Q i))))]) ⟨rfl, rfl⟩ (zk_rv (As := []) (rest := []) (q0 := 3) (ci := 2) Z ((ct_X2_value l D g τ a kc kv kn km sz ns ln at1 ft C X (fun k9 => nI (zs_nm (zs_ap (zs_pl P (zk_les k) pa) (zs_pl P (zk_gre k) pb)) (Q (zk_les k)) (Q (zk_gre k)) hide (zs_pl P (zk_les k) pa) (zs_pl P (zk_gre k) pb) k9)) stk (by omega)) H.size) hK hT hA G [3, 4, 5, 6, 7] rfl (by decide) rfl rfl gX5_lawful_X2_value rfl dvX2_value ⟨by decide, by decide⟩ rfl hl.1 rfl (Nat.le_of_ble_eq_true rfl) dX5_lawful_145 ⟨Nat.zero_le _, Nat.zero_le _⟩) hA G [3, 4, 5, 6, 7] [0, 1, 2] [0, 1, 2, 3, 4, 5, 6, 7] rfl rfl (by decide) (by decide) (by decide) (fun _ => rfl) (fun r_145 stk1_145 H locs w_145 G => ?_)
    obtain rfl : r_145 = zl_ev C X sz (fun k9 => nI (zs_nm (zs_ap (zs_pl P (zk_les k) pa) (zs_pl P (zk_gre k) pb)) (Q (zk_les k)) (Q (zk_gre k)) hide (zs_pl P (zk_les k) pa) (zs_pl P (zk_gre k) pb) k9)) := w_145
    refine lv_if_eq (tgt := 155) Z.1 Z.2.1 dX5_lawful_148 (by decide) (fun c148 => ?_) (fun c148 => ?_)
    · have c148 : zl_ev C X sz (fun k9 => nI (zs_nm (zs_ap (zs_pl P (zk_les k) pa) (zs_pl P (zk_gre k) pb)) (Q (zk_les k)) (Q (zk_gre k)) hide (zs_pl P (zk_les k) pa) (zs_pl P (zk_gre k) pb) k9)) = 0 := c148
      refine lv_iconst (v := nI 0) Z.1 Z.2.1 dX5_lawful_155 (by decide +kernel) ?_
      refine W.eq (g2 := F0 mM 156 ls [.int (zk_b false)]) rfl ?_
      exact zk_retz Z hR_ hlk hK hQ G ((fun k9 => nI (zs_nm (zs_ap (zs_pl P (zk_les k) pa) (zs_pl P (zk_gre k) pb)) (Q (zk_les k)) (Q (zk_gre k)) hide (zs_pl P (zk_les k) pa) (zs_pl P (zk_gre k) pb) k9)), stk1_145) (congrArg zk_b ((zs_see_t c62).trans (decide_eq_false (fun q => q c148))).symm) rfl dX5_lawful_156
    have c148 : ¬ zl_ev C X sz (fun k9 => nI (zs_nm (zs_ap (zs_pl P (zk_les k) pa) (zs_pl P (zk_gre k) pb)) (Q (zk_les k)) (Q (zk_gre k)) hide (zs_pl P (zk_les k) pa) (zs_pl P (zk_gre k) pb) k9)) = 0 := c148
    refine lv_iconst (v := nI 1) Z.1 Z.2.1 dX5_lawful_151 (by decide +kernel) ?_
    refine lv_goto (tgt := 156) Z.1 Z.2.1 dX5_lawful_152 (by decide) ?_
    refine W.eq (g2 := F0 mM 156 ls [.int (zk_b true)]) rfl ?_
    exact zk_retz Z hR_ hlk hK hQ G ((fun k9 => nI (zs_nm (zs_ap (zs_pl P (zk_les k) pa) (zs_pl P (zk_gre k) pb)) (Q (zk_les k)) (Q (zk_gre k)) hide (zs_pl P (zk_les k) pa) (zs_pl P (zk_gre k) pb) k9)), stk1_145) (congrArg zk_b ((zs_see_t c62).trans (decide_eq_true c148)).symm) rfl dX5_lawful_156
  have c62 : decide (0 < sz) = false := zk_b0.mp c62
  refine lv_iload Z.1 Z.2.1 dX5_lawful_65 (lv_at hl 0 rfl) ?_
  refine lv_aload_n Z.1 Z.2.1 dX5_lawful_67 rfl (lv_at hl 6 rfl) ?_
  refine zk_get (C := RX5) (T := TX5) (N := 11) (ci := 5) Z hK G hinX5 0 rfl rfl 4 (by decide) (List.mem_of_getElem? (i := 11) rfl) rfl (v := .int (nI hide)) rfl dX5_lawful_68 ?_
  refine zk_iadd Z dX5_lawful_71 (z := nI (zs_ap (zs_pl P (zk_les k) pa) (zs_pl P (zk_gre k) pb) + hide)) (nI_add _ _) ?_
  refine lv_sipush (v := nI 180) Z.1 Z.2.1 dX5_lawful_72 (by decide +kernel) ?_
  refine lv_icmp_gt (tgt := 82) Z.1 Z.2.1 dX5_lawful_75 (by decide) (fun c75 => ?_) (fun c75 => ?_)
  · have c75 : 180 < zs_ap (zs_pl P (zk_les k) pa) (zs_pl P (zk_gre k) pb) + hide := zk_lt (by omega) (by omega) c75
    refine lv_iconst (v := nI 0) Z.1 Z.2.1 dX5_lawful_82 (by decide +kernel) ?_
    refine W.eq (g2 := F0 mM 83 ls [.int (zk_b false)]) rfl ?_
    exact zk_retz Z hR_ hlk hK hQ G (nm, stk) (congrArg zk_b ((zs_see_f c62).trans (decide_eq_false (Nat.not_le.mpr c75))).symm) rfl dX5_lawful_83
  have c75 : zs_ap (zs_pl P (zk_les k) pa) (zs_pl P (zk_gre k) pb) + hide ≤ 180 := zk_nlt (by omega) (by omega) c75
  refine lv_iconst (v := nI 1) Z.1 Z.2.1 dX5_lawful_78 (by decide +kernel) ?_
  refine lv_goto (tgt := 83) Z.1 Z.2.1 dX5_lawful_79 (by decide) ?_
  refine W.eq (g2 := F0 mM 83 ls [.int (zk_b true)]) rfl ?_
  exact zk_retz Z hR_ hlk hK hQ G (nm, stk) (congrArg zk_b ((zs_see_f c62).trans (decide_eq_true c75)).symm) rfl dX5_lawful_83

abbrev rm_X5_look : Room := { frames := 3, cells := 0, slots := 0, locals := 96 }
theorem dvX5_look : zk_dv yX5_look RX5 3 := by decide +kernel
set_option maxRecDepth 100000 in
set_option maxHeartbeats 4000000 in
theorem ct_X5_look (l : Launch) (D : va_G) (g : Nat → ClassId) (τ : Nat → Nat) (a : Nat → Nat) (n : Nat) (hide : Nat) (ver : Nat) (ew : Int32) (ek : Bool) (P : Nat → Nat) (S : Nat → Nat) (Q : Nat → Nat) (T : Nat → Int32) (kc : Nat) (kv : Nat) (kn : Nat) (km : Nat) (sz : Nat) (ns : Int32) (ln : Nat) (at1 : Int32) (ft : Int32) (C : Nat → Nat) (X : Nat → Nat) (nm : Nat → Int32) (stk : Nat → Int32) (k : Nat) (pa : Nat) (pb : Nat) (hwf : zl_wf C X sz) (hhi : hide ≤ 180) (hW : zs_W n P S) (hk : k < 21) (hkn : zk_gre k < n) (hpa : pa < P (zk_les k)) (hpb : pb < P (zk_gre k)) (hok : zs_ok (decide (0 < sz)) (zl_ev C X sz) P Q hide n T) : zk_MI l D g τ yX5_look wsX5_look rm_X5_look [.ref (a 2), .int (nI k), .int (nI pa), .int (nI pb)] [(a 2, .inr (5, [.ref (a 20), .ref (a 21), .ref (a 22), .int (nI n), .int (nI hide), .ref (a 1), .ref (a 23), .ref (a 24), .int (nI ver), .int ew, .int (zk_b ek)])), (a 20, .inl (g 0, 7, .inl (fun i => nI (P i)))), (a 22, .inl (g 0, 7, .inl (fun i => nI (Q i)))), (a 23, .inl (g 2, 3024, .inl T)), (a 1, .inr (2, [.ref (a 10), .ref (a 11), .ref (a 12), .ref kc, .ref kv, .ref kn, .ref km, .int (nI sz), .int ns, .int (nI ln), .int at1, .int ft])), (a 10, .inl (g 0, 6, .inl nm)), (a 12, .inl (g 0, 128, .inl stk)), (kc, .inl (g 0, 128, .inl (fun i => nI (C i)))), (kv, .inl (g 0, 128, .inl (fun i => nI (X i))))] (fun (r : Int32) (uu : (Nat → Int32) × (Nat → Int32) × (Nat → Int32)) => (r = zk_b (zs_sk (decide (0 < sz)) (zl_ev C X sz) P Q hide k pa pb)) ∧ (zs_ok (decide (0 < sz)) (zl_ev C X sz) P Q hide n uu.1)) (fun (uu : (Nat → Int32) × (Nat → Int32) × (Nat → Int32)) => [(a 2, .inr (5, [.ref (a 20), .ref (a 21), .ref (a 22), .int (nI n), .int (nI hide), .ref (a 1), .ref (a 23), .ref (a 24), .int (nI ver), .int ew, .int (zk_b ek)])), (a 20, .inl (g 0, 7, .inl (fun i => nI (P i)))), (a 22, .inl (g 0, 7, .inl (fun i => nI (Q i)))), (a 23, .inl (g 2, 3024, .inl uu.1)), (a 1, .inr (2, [.ref (a 10), .ref (a 11), .ref (a 12), .ref kc, .ref kv, .ref kn, .ref km, .int (nI sz), .int ns, .int (nI ln), .int at1, .int ft])), (a 10, .inl (g 0, 6, .inl uu.2.1)), (a 12, .inl (g 0, 128, .inl uu.2.2)), (kc, .inl (g 0, 128, .inl (fun i => nI (C i)))), (kv, .inl (g 0, 128, .inl (fun i => nI (X i))))]) := by
  refine zk_of (Qc := fun A => va_Qi (fun (r : Int32) (uu : (Nat → Int32) × (Nat → Int32) × (Nat → Int32)) => (r = zk_b (zs_sk (decide (0 < sz)) (zl_ev C X sz) P Q hide k pa pb)) ∧ (zs_ok (decide (0 < sz)) (zl_ev C X sz) P Q hide n uu.1)) (zk_B D g A (fun (uu : (Nat → Int32) × (Nat → Int32) × (Nat → Int32)) => [(a 2, .inr (5, [.ref (a 20), .ref (a 21), .ref (a 22), .int (nI n), .int (nI hide), .ref (a 1), .ref (a 23), .ref (a 24), .int (nI ver), .int ew, .int (zk_b ek)])), (a 20, .inl (g 0, 7, .inl (fun i => nI (P i)))), (a 22, .inl (g 0, 7, .inl (fun i => nI (Q i)))), (a 23, .inl (g 2, 3024, .inl uu.1)), (a 1, .inr (2, [.ref (a 10), .ref (a 11), .ref (a 12), .ref kc, .ref kv, .ref kn, .ref km, .int (nI sz), .int ns, .int (nI ln), .int at1, .int ft])), (a 10, .inl (g 0, 6, .inl uu.2.1)), (a 12, .inl (g 0, 128, .inl uu.2.2)), (kc, .inl (g 0, 128, .inl (fun i => nI (C i)))), (kv, .inl (g 0, 128, .inl (fun i => nI (X i))))])) A) (cc := cX5_look) (maxL := 5) (ret := (some .boolean)) (own := RX5) (by decide) rfl rfl (Nat.le_of_ble_eq_true rfl) ?_
  intro pP eE sS mM args below meth cC aA ls qQ Z hR_ hlk hnm hK hT hA hQ G hl
  have hinX5 : ∀ w ∈ u_ws RX5 TX5 11, w ∈ wsX5_look := (fun _ h => List.mem_cons_of_mem _ (List.mem_append_left _ (List.mem_append_right _ h)))
  have q1 := zk_les_gre hk
  have q4 := (hW.2 (zk_les k) (by omega)).2.1
  have q5 := (hW.2 (zk_gre k) hkn).2.1
  refine lv_iload_n Z.1 Z.2.1 dX5_look_0 rfl (lv_at hl 1 rfl) ?_
  refine lv_sipush (v := nI 144) Z.1 Z.2.1 dX5_look_1 (by decide +kernel) ?_
  refine zk_imul Z dX5_look_4 (z := nI (k * 144)) (pk_mul _ _) ?_
  refine lv_iload_n Z.1 Z.2.1 dX5_look_5 rfl (lv_at hl 2 rfl) ?_
  refine lv_bipush (v := nI 12) Z.1 Z.2.1 dX5_look_6 (by decide +kernel) ?_
  refine zk_imul Z dX5_look_8 (z := nI (pa * 12)) (pk_mul _ _) ?_
  refine zk_iadd Z dX5_look_9 (z := nI (k * 144 + (pa * 12))) (nI_add _ _) ?_
  refine lv_iload_n Z.1 Z.2.1 dX5_look_10 rfl (lv_at hl 3 rfl) ?_
  refine zk_iadd Z dX5_look_11 (z := nI (k * 144 + (pa * 12) + pb)) (nI_add _ _) ?_
  refine lv_istore (lv' := [(4, .int (nI (k * 144 + (pa * 12) + pb))), (0, .ref (a 2)), (1, .int (nI k)), (2, .int (nI pa)), (3, .int (nI pb))]) Z.1 Z.2.1 dX5_look_12 hl (by decide) rfl (fun ls hl => ?_)
  refine lv_iload Z.1 Z.2.1 dX5_look_14 (lv_at hl 0 rfl) ?_
  refine lv_if_lt (tgt := 29) Z.1 Z.2.1 dX5_look_16 (by decide) (fun c16 => ?_) (fun c16 => ?_)
  · exfalso
    have c16 : k * 144 + (pa * 12) + pb < 0 := zk_lt (by omega) (by omega) c16
    omega
  have c16 : 0 ≤ k * 144 + (pa * 12) + pb := zk_nlt (by omega) (by omega) c16
  refine lv_iload Z.1 Z.2.1 dX5_look_19 (lv_at hl 0 rfl) ?_
  refine lv_aload_n Z.1 Z.2.1 dX5_look_21 rfl (lv_at hl 1 rfl) ?_
  refine zk_get (C := RX5) (T := TX5) (N := 11) (ci := 5) Z hK G hinX5 0 rfl rfl 6 (by decide) (List.mem_of_getElem? (i := 1) rfl) rfl (v := .ref (a 23)) rfl dX5_look_22 ?_
  refine zk_alen Z hK G 3 2 rfl rfl (v := nI 3024) rfl dX5_look_25 ?_
  refine lv_icmp_lt (tgt := 31) Z.1 Z.2.1 dX5_look_26 (by decide) (fun c26 => ?_) (fun c26 => ?_)
  · have c26 : k * 144 + (pa * 12) + pb < 3024 := zk_lt (by omega) (by omega) c26
    refine lv_aload_n Z.1 Z.2.1 dX5_look_31 rfl (lv_at hl 1 rfl) ?_
    refine zk_get (C := RX5) (T := TX5) (N := 11) (ci := 5) Z hK G hinX5 0 rfl rfl 6 (by decide) (List.mem_of_getElem? (i := 1) rfl) rfl (v := .ref (a 23)) rfl dX5_look_32 ?_
    refine lv_iload Z.1 Z.2.1 dX5_look_35 (lv_at hl 0 rfl) ?_
    refine zk_bald Z hK G 3 rfl (k := k * 144 + (pa * 12) + pb) (by omega) (by decide) (v := T (k * 144 + (pa * 12) + pb)) rfl dX5_look_37 ?_
    refine lv_if_ne (tgt := 64) Z.1 Z.2.1 dX5_look_38 (by decide) (fun c38 => ?_) (fun c38 => ?_)
    · have c38 : ¬ T (k * 144 + (pa * 12) + pb) = 0 := c38
      refine lv_aload_n Z.1 Z.2.1 dX5_look_64 rfl (lv_at hl 1 rfl) ?_
      refine zk_get (C := RX5) (T := TX5) (N := 11) (ci := 5) Z hK G hinX5 0 rfl rfl 6 (by decide) (List.mem_of_getElem? (i := 1) rfl) rfl (v := .ref (a 23)) rfl dX5_look_65 ?_
      refine lv_iload Z.1 Z.2.1 dX5_look_68 (lv_at hl 0 rfl) ?_
      refine zk_bald Z hK G 3 rfl (k := k * 144 + (pa * 12) + pb) (by omega) (by decide) (v := T (k * 144 + pa * 12 + pb)) rfl dX5_look_70 ?_
      refine lv_iconst (v := nI 2) Z.1 Z.2.1 dX5_look_71 (by decide +kernel) ?_
      refine lv_icmp_ne (tgt := 79) Z.1 Z.2.1 dX5_look_72 (by decide) (fun c72 => ?_) (fun c72 => ?_)
      · have c72 : ¬ T (k * 144 + pa * 12 + pb) = 2 := c72
        refine lv_iconst (v := nI 0) Z.1 Z.2.1 dX5_look_79 (by decide +kernel) ?_
        refine W.eq (g2 := F0 mM 80 ls [.int (zk_b false)]) rfl ?_
        exact zk_retz Z hR_ hlk hK hQ G (T, nm, stk) ⟨congrArg zk_b ((zs_two ((hok k hk hkn pa pb hpa hpb).resolve_left c38)).2 c72).symm, hok⟩ rfl dX5_look_80
      have c72 : T (k * 144 + pa * 12 + pb) = 2 := c72
      refine lv_iconst (v := nI 1) Z.1 Z.2.1 dX5_look_75 (by decide +kernel) ?_
      refine lv_goto (tgt := 80) Z.1 Z.2.1 dX5_look_76 (by decide) ?_
      refine W.eq (g2 := F0 mM 80 ls [.int (zk_b true)]) rfl ?_
      exact zk_retz Z hR_ hlk hK hQ G (T, nm, stk) ⟨congrArg zk_b ((zs_two ((hok k hk hkn pa pb hpa hpb).resolve_left c38)).1 c72).symm, hok⟩ rfl dX5_look_80
    have c38 : T (k * 144 + (pa * 12) + pb) = 0 := c38
    refine lv_aload_n Z.1 Z.2.1 dX5_look_41 rfl (lv_at hl 1 rfl) ?_
    refine zk_get (C := RX5) (T := TX5) (N := 11) (ci := 5) Z hK G hinX5 0 rfl rfl 6 (by decide) (List.mem_of_getElem? (i := 1) rfl) rfl (v := .ref (a 23)) rfl dX5_look_42 ?_
    refine lv_iload Z.1 Z.2.1 dX5_look_45 (lv_at hl 0 rfl) ?_
    refine lv_aload_n Z.1 Z.2.1 dX5_look_47 rfl (lv_at hl 1 rfl) ?_
    refine lv_iload_n Z.1 Z.2.1 dX5_look_48 rfl (lv_at hl 2 rfl) ?_
    refine lv_iload_n Z.1 Z.2.1 dX5_look_49 rfl (lv_at hl 3 rfl) ?_
    refine lv_iload_n Z.1 Z.2.1 dX5_look_50 rfl (lv_at hl 4 rfl) ?_
    refine zk_ci (WF := fun uu => [(a 2, .inr (5, [.ref (a 20), .ref (a 21), .ref (a 22), .int (nI n), .int (nI hide), .ref (a 1), .ref (a 23), .ref (a 24), .int (nI ver), .int ew, .int (zk_b ek)])), (a 20, .inl (g 0, 7, .inl (fun i => nI (P i)))), (a 22, .inl (g 0, 7, .inl (fun i => nI (Q i)))), (a 23, .inl (g 2, 3024, .inl T)), (a 1, .inr (2, [.ref (a 10), .ref (a 11), .ref (a 12), .ref kc, .ref kv, .ref kn, .ref km, .int (nI sz), .int ns, .int (nI ln), .int at1, .int ft])), (a 10, .inl (g 0, 6, .inl uu.1)), (a 12, .inl (g 0, 128, .inl uu.2)), (kc, .inl (g 0, 128, .inl (fun i => nI (C i)))), (kv, .inl (g 0, 128, .inl (fun i => nI (X i))))]) (wr := [(a 23, .inl (g 2, 3024, .inl T))]) ⟨rfl, rfl⟩ (zk_rv (As := [.int (nI k), .int (nI pa), .int (nI pb)]) (rest := [.int (nI (k * 144 + (pa * 12) + pb)), .ref (a 23)]) (q0 := 0) (ci := 5) Z ((ct_X5_lawful l D g τ a n hide ver ew ek P S Q kc kv kn km sz ns ln at1 ft C X nm stk k pa pb (by omega) (by omega) (by omega) (by omega) (by omega) (by omega) (by omega)) sS.heap.size) hK hT hA G [0, 1, 2, 4, 5, 6, 7, 8] rfl (by decide) rfl rfl gX5_look_X5_lawful rfl dvX5_lawful ⟨by decide, by decide⟩ rfl hl.1 rfl (Nat.le_of_ble_eq_true rfl) dX5_look_51 ⟨Nat.zero_le _, Nat.zero_le _⟩) hA G [0, 1, 2, 4, 5, 6, 7, 8] [3] [1, 2, 3, 0, 4, 5, 6, 7, 8] rfl rfl (by decide) (by decide) (by decide) (fun _ => rfl) (fun r_51 uu H locs w_51 G => ?_)
    obtain ⟨nm1_51, stk1_51⟩ := uu
    have G : zk_G D aA [(a 2, .inr (5, [.ref (a 20), .ref (a 21), .ref (a 22), .int (nI n), .int (nI hide), .ref (a 1), .ref (a 23), .ref (a 24), .int (nI ver), .int ew, .int (zk_b ek)])), (a 20, .inl (g 0, 7, .inl (fun i => nI (P i)))), (a 22, .inl (g 0, 7, .inl (fun i => nI (Q i)))), (a 23, .inl (g 2, 3024, .inl T)), (a 1, .inr (2, [.ref (a 10), .ref (a 11), .ref (a 12), .ref kc, .ref kv, .ref kn, .ref km, .int (nI sz), .int ns, .int (nI ln), .int at1, .int ft])), (a 10, .inl (g 0, 6, .inl nm1_51)), (a 12, .inl (g 0, 128, .inl stk1_51)), (kc, .inl (g 0, 128, .inl (fun i => nI (C i)))), (kv, .inl (g 0, 128, .inl (fun i => nI (X i))))] sS H locs := G
    obtain rfl : r_51 = zk_b (zs_sk (decide (0 < sz)) (zl_ev C X sz) P Q hide k pa pb) := w_51
    refine lv_if_eq (tgt := 61) Z.1 Z.2.1 dX5_look_54 (by decide) (fun c54 => ?_) (fun c54 => ?_)
    · have c54 : zs_sk (decide (0 < sz)) (zl_ev C X sz) P Q hide k pa pb = false := zk_b0.mp c54
      refine lv_iconst (v := nI 1) Z.1 Z.2.1 dX5_look_61 (by decide +kernel) ?_
      refine lv_i2b (v := nI 1) Z.1 Z.2.1 dX5_look_62 (by decide) ?_
      refine zk_bast Z hK G 3 rfl (k := k * 144 + (pa * 12) + pb) (by omega) (by decide) (congrArg (upd T _) (by decide)) (ws' := [(a 2, .inr (5, [.ref (a 20), .ref (a 21), .ref (a 22), .int (nI n), .int (nI hide), .ref (a 1), .ref (a 23), .ref (a 24), .int (nI ver), .int ew, .int (zk_b ek)])), (a 20, .inl (g 0, 7, .inl (fun i => nI (P i)))), (a 22, .inl (g 0, 7, .inl (fun i => nI (Q i)))), (a 23, .inl (g 2, 3024, .inl (upd T (k * 144 + pa * 12 + pb) (nI 1)))), (a 1, .inr (2, [.ref (a 10), .ref (a 11), .ref (a 12), .ref kc, .ref kv, .ref kn, .ref km, .int (nI sz), .int ns, .int (nI ln), .int at1, .int ft])), (a 10, .inl (g 0, 6, .inl nm1_51)), (a 12, .inl (g 0, 128, .inl stk1_51)), (kc, .inl (g 0, 128, .inl (fun i => nI (C i)))), (kv, .inl (g 0, 128, .inl (fun i => nI (X i))))]) rfl dX5_look_63 (fun H locs G => ?_)
      refine lv_aload_n Z.1 Z.2.1 dX5_look_64 rfl (lv_at hl 1 rfl) ?_
      refine zk_get (C := RX5) (T := TX5) (N := 11) (ci := 5) Z hK G hinX5 0 rfl rfl 6 (by decide) (List.mem_of_getElem? (i := 1) rfl) rfl (v := .ref (a 23)) rfl dX5_look_65 ?_
      refine lv_iload Z.1 Z.2.1 dX5_look_68 (lv_at hl 0 rfl) ?_
      refine zk_bald Z hK G 3 rfl (k := k * 144 + (pa * 12) + pb) (by omega) (by decide) (v := nI 1) pk_us dX5_look_70 ?_
      refine lv_iconst (v := nI 2) Z.1 Z.2.1 dX5_look_71 (by decide +kernel) ?_
      refine lv_icmp_ne (tgt := 79) Z.1 Z.2.1 dX5_look_72 (by decide) (fun c72 => ?_) (fun c72 => ?_)
      · have c72 : 1 ≠ 2 := zk_neq (by omega) (by omega) c72
        refine lv_iconst (v := nI 0) Z.1 Z.2.1 dX5_look_79 (by decide +kernel) ?_
        refine W.eq (g2 := F0 mM 80 ls [.int (zk_b false)]) rfl ?_
        exact zk_retz Z hR_ hlk hK hQ G (upd T (k * 144 + pa * 12 + pb) (nI 1), nm1_51, stk1_51) ⟨congrArg zk_b c54.symm, zs_ok_up hW hok hkn hk hpa hpb (by rw [c54]; rfl)⟩ rfl dX5_look_80
      exfalso
      have c72 : 1 = 2 := zk_eq (by omega) (by omega) c72
      omega
    have c54 : zs_sk (decide (0 < sz)) (zl_ev C X sz) P Q hide k pa pb = true := zk_b1.mp c54
    refine lv_iconst (v := nI 2) Z.1 Z.2.1 dX5_look_57 (by decide +kernel) ?_
    refine lv_goto (tgt := 62) Z.1 Z.2.1 dX5_look_58 (by decide) ?_
    refine lv_i2b (v := nI 2) Z.1 Z.2.1 dX5_look_62 (by decide) ?_
    refine zk_bast Z hK G 3 rfl (k := k * 144 + (pa * 12) + pb) (by omega) (by decide) (congrArg (upd T _) (by decide)) (ws' := [(a 2, .inr (5, [.ref (a 20), .ref (a 21), .ref (a 22), .int (nI n), .int (nI hide), .ref (a 1), .ref (a 23), .ref (a 24), .int (nI ver), .int ew, .int (zk_b ek)])), (a 20, .inl (g 0, 7, .inl (fun i => nI (P i)))), (a 22, .inl (g 0, 7, .inl (fun i => nI (Q i)))), (a 23, .inl (g 2, 3024, .inl (upd T (k * 144 + pa * 12 + pb) (nI 2)))), (a 1, .inr (2, [.ref (a 10), .ref (a 11), .ref (a 12), .ref kc, .ref kv, .ref kn, .ref km, .int (nI sz), .int ns, .int (nI ln), .int at1, .int ft])), (a 10, .inl (g 0, 6, .inl nm1_51)), (a 12, .inl (g 0, 128, .inl stk1_51)), (kc, .inl (g 0, 128, .inl (fun i => nI (C i)))), (kv, .inl (g 0, 128, .inl (fun i => nI (X i))))]) rfl dX5_look_63 (fun H locs G => ?_)
    refine lv_aload_n Z.1 Z.2.1 dX5_look_64 rfl (lv_at hl 1 rfl) ?_
    refine zk_get (C := RX5) (T := TX5) (N := 11) (ci := 5) Z hK G hinX5 0 rfl rfl 6 (by decide) (List.mem_of_getElem? (i := 1) rfl) rfl (v := .ref (a 23)) rfl dX5_look_65 ?_
    refine lv_iload Z.1 Z.2.1 dX5_look_68 (lv_at hl 0 rfl) ?_
    refine zk_bald Z hK G 3 rfl (k := k * 144 + (pa * 12) + pb) (by omega) (by decide) (v := nI 2) pk_us dX5_look_70 ?_
    refine lv_iconst (v := nI 2) Z.1 Z.2.1 dX5_look_71 (by decide +kernel) ?_
    refine lv_icmp_ne (tgt := 79) Z.1 Z.2.1 dX5_look_72 (by decide) (fun c72 => ?_) (fun c72 => ?_)
    · exfalso
      have c72 : 2 ≠ 2 := zk_neq (by omega) (by omega) c72
      omega
    have c72 : 2 = 2 := zk_eq (by omega) (by omega) c72
    refine lv_iconst (v := nI 1) Z.1 Z.2.1 dX5_look_75 (by decide +kernel) ?_
    refine lv_goto (tgt := 80) Z.1 Z.2.1 dX5_look_76 (by decide) ?_
    refine W.eq (g2 := F0 mM 80 ls [.int (zk_b true)]) rfl ?_
    exact zk_retz Z hR_ hlk hK hQ G (upd T (k * 144 + pa * 12 + pb) (nI 2), nm1_51, stk1_51) ⟨congrArg zk_b c54.symm, zs_ok_up hW hok hkn hk hpa hpb (by rw [c54]; rfl)⟩ rfl dX5_look_80
  exfalso
  have c26 : 3024 ≤ k * 144 + (pa * 12) + pb := zk_nlt (by omega) (by omega) c26
  omega

abbrev rm_X5_meet : Room := { frames := 4, cells := 0, slots := 0, locals := 120 }
theorem dvX5_meet : zk_dv yX5_meet RX5 3 := by decide +kernel
set_option maxRecDepth 100000 in
set_option maxHeartbeats 4000000 in
theorem ct_X5_meet (l : Launch) (D : va_G) (g : Nat → ClassId) (τ : Nat → Nat) (a : Nat → Nat) (n : Nat) (hide : Nat) (ver : Nat) (ew : Int32) (ek : Bool) (P : Nat → Nat) (S : Nat → Nat) (Q : Nat → Nat) (T : Nat → Int32) (kc : Nat) (kv : Nat) (kn : Nat) (km : Nat) (sz : Nat) (ns : Int32) (ln : Nat) (at1 : Int32) (ft : Int32) (C : Nat → Nat) (X : Nat → Nat) (nm : Nat → Int32) (stk : Nat → Int32) (p : Nat) (q : Nat) (t : Nat) (hwf : zl_wf C X sz) (hhi : hide ≤ 180) (hW : zs_W n P S) (hp : p < n) (hq : q < n) (hpq : p ≠ q) (ht : t < 2 ^ 30) (hok : zs_ok (decide (0 < sz)) (zl_ev C X sz) P Q hide n T) : zk_MI l D g τ yX5_meet wsX5_meet rm_X5_meet [.ref (a 2), .int (nI p), .int (nI q), .int (nI t)] [(a 2, .inr (5, [.ref (a 20), .ref (a 21), .ref (a 22), .int (nI n), .int (nI hide), .ref (a 1), .ref (a 23), .ref (a 24), .int (nI ver), .int ew, .int (zk_b ek)])), (a 20, .inl (g 0, 7, .inl (fun i => nI (P i)))), (a 21, .inl (g 0, 7, .inl (fun i => nI (S i)))), (a 22, .inl (g 0, 7, .inl (fun i => nI (Q i)))), (a 23, .inl (g 2, 3024, .inl T)), (a 1, .inr (2, [.ref (a 10), .ref (a 11), .ref (a 12), .ref kc, .ref kv, .ref kn, .ref km, .int (nI sz), .int ns, .int (nI ln), .int at1, .int ft])), (a 10, .inl (g 0, 6, .inl nm)), (a 12, .inl (g 0, 128, .inl stk)), (kc, .inl (g 0, 128, .inl (fun i => nI (C i)))), (kv, .inl (g 0, 128, .inl (fun i => nI (X i))))] (fun (r : Int32) (uu : (Nat → Int32) × (Nat → Int32) × (Nat → Int32)) => (r = zk_b (zs_meet (decide (0 < sz)) (zl_ev C X sz) P S Q hide p q t)) ∧ (zs_ok (decide (0 < sz)) (zl_ev C X sz) P Q hide n uu.1)) (fun (uu : (Nat → Int32) × (Nat → Int32) × (Nat → Int32)) => [(a 2, .inr (5, [.ref (a 20), .ref (a 21), .ref (a 22), .int (nI n), .int (nI hide), .ref (a 1), .ref (a 23), .ref (a 24), .int (nI ver), .int ew, .int (zk_b ek)])), (a 20, .inl (g 0, 7, .inl (fun i => nI (P i)))), (a 21, .inl (g 0, 7, .inl (fun i => nI (S i)))), (a 22, .inl (g 0, 7, .inl (fun i => nI (Q i)))), (a 23, .inl (g 2, 3024, .inl uu.1)), (a 1, .inr (2, [.ref (a 10), .ref (a 11), .ref (a 12), .ref kc, .ref kv, .ref kn, .ref km, .int (nI sz), .int ns, .int (nI ln), .int at1, .int ft])), (a 10, .inl (g 0, 6, .inl uu.2.1)), (a 12, .inl (g 0, 128, .inl uu.2.2)), (kc, .inl (g 0, 128, .inl (fun i => nI (C i)))), (kv, .inl (g 0, 128, .inl (fun i => nI (X i))))]) := by
  refine zk_of (Qc := fun A => va_Qi (fun (r : Int32) (uu : (Nat → Int32) × (Nat → Int32) × (Nat → Int32)) => (r = zk_b (zs_meet (decide (0 < sz)) (zl_ev C X sz) P S Q hide p q t)) ∧ (zs_ok (decide (0 < sz)) (zl_ev C X sz) P Q hide n uu.1)) (zk_B D g A (fun (uu : (Nat → Int32) × (Nat → Int32) × (Nat → Int32)) => [(a 2, .inr (5, [.ref (a 20), .ref (a 21), .ref (a 22), .int (nI n), .int (nI hide), .ref (a 1), .ref (a 23), .ref (a 24), .int (nI ver), .int ew, .int (zk_b ek)])), (a 20, .inl (g 0, 7, .inl (fun i => nI (P i)))), (a 21, .inl (g 0, 7, .inl (fun i => nI (S i)))), (a 22, .inl (g 0, 7, .inl (fun i => nI (Q i)))), (a 23, .inl (g 2, 3024, .inl uu.1)), (a 1, .inr (2, [.ref (a 10), .ref (a 11), .ref (a 12), .ref kc, .ref kv, .ref kn, .ref km, .int (nI sz), .int ns, .int (nI ln), .int at1, .int ft])), (a 10, .inl (g 0, 6, .inl uu.2.1)), (a 12, .inl (g 0, 128, .inl uu.2.2)), (kc, .inl (g 0, 128, .inl (fun i => nI (C i)))), (kv, .inl (g 0, 128, .inl (fun i => nI (X i))))])) A) (cc := cX5_meet) (maxL := 6) (ret := (some .boolean)) (own := RX5) (by decide) rfl rfl (Nat.le_of_ble_eq_true rfl) ?_
  intro pP eE sS mM args below meth cC aA ls qQ Z hR_ hlk hnm hK hT hA hQ G hl
  have hn := hW.1
  obtain ⟨i, hi⟩ : ∃ i, i = min p q := ⟨_, rfl⟩
  obtain ⟨j, hj⟩ : ∃ j, j = max p q := ⟨_, rfl⟩
  have hij : i < j := by omega
  have hjn : j < n := by omega
  obtain ⟨e1, e2, e3⟩ := zk_pr hij (by omega)
  have w1 := hW.2 i (by omega)
  have w2 := hW.2 j hjn
  have h1 : zs_ph P S i t < P i := zs_ph_lt w1.1
  have h2 : zs_ph P S j t < P j := zs_ph_lt w2.1
  have e0 : j * (j - 1) ≤ 6 * 5 := Nat.mul_le_mul (by omega) (by omega)
  refine lv_iload_n Z.1 Z.2.1 dX5_meet_0 rfl (lv_at hl 1 rfl) ?_
  refine lv_iload_n Z.1 Z.2.1 dX5_meet_1 rfl (lv_at hl 2 rfl) ?_
  refine zk_min Z hl.1 (List.mem_of_getElem? (i := 1) rfl) (List.mem_of_getElem? (i := 2) rfl) (List.mem_of_getElem? (i := 3) rfl) (List.mem_of_getElem? (i := 4) rfl) (by decide) (by decide) (Nat.zero_le _) (Nat.zero_le _) (z := nI i) (by rw [hi]; exact zk_nmin (by omega) (by omega)) dX5_meet_2 ?_
  refine lv_istore (lv' := [(4, .int (nI i)), (0, .ref (a 2)), (1, .int (nI p)), (2, .int (nI q)), (3, .int (nI t))]) Z.1 Z.2.1 dX5_meet_5 hl (by decide) rfl (fun ls hl => ?_)
  refine lv_iload_n Z.1 Z.2.1 dX5_meet_7 rfl (lv_at hl 2 rfl) ?_
  refine lv_iload_n Z.1 Z.2.1 dX5_meet_8 rfl (lv_at hl 3 rfl) ?_
  refine zk_max Z hl.1 (List.mem_of_getElem? (i := 5) rfl) (List.mem_of_getElem? (i := 6) rfl) (List.mem_of_getElem? (i := 3) rfl) (List.mem_of_getElem? (i := 7) rfl) (by decide) (by decide) (Nat.zero_le _) (Nat.zero_le _) (z := nI j) (by rw [hj]; exact zk_nmax (by omega) (by omega)) dX5_meet_9 ?_
  refine lv_istore (lv' := [(5, .int (nI j)), (4, .int (nI i)), (0, .ref (a 2)), (1, .int (nI p)), (2, .int (nI q)), (3, .int (nI t))]) Z.1 Z.2.1 dX5_meet_12 hl (by decide) rfl (fun ls hl => ?_)
  refine lv_aload_n Z.1 Z.2.1 dX5_meet_14 rfl (lv_at hl 2 rfl) ?_
  refine lv_iload Z.1 Z.2.1 dX5_meet_15 (lv_at hl 0 rfl) ?_
  refine lv_iload Z.1 Z.2.1 dX5_meet_17 (lv_at hl 0 rfl) ?_
  refine lv_iconst (v := nI 1) Z.1 Z.2.1 dX5_meet_19 (by decide +kernel) ?_
  refine zk_isub Z dX5_meet_20 (z := nI (j - 1)) (pk_sub (by omega)) ?_
  refine zk_imul Z dX5_meet_21 (z := nI (j * (j - 1))) (pk_mul _ _) ?_
  refine lv_iconst (v := nI 2) Z.1 Z.2.1 dX5_meet_22 (by decide +kernel) ?_
  refine zk_idiv Z dX5_meet_23 (nI_ne0 (by omega) (by omega)) (z := nI ((j * (j - 1)) / 2)) (pk_div (by omega) (by omega) (by omega)) ?_
  refine lv_iload Z.1 Z.2.1 dX5_meet_24 (lv_at hl 1 rfl) ?_
  refine zk_iadd Z dX5_meet_26 (z := nI ((j * (j - 1)) / 2 + i)) (nI_add _ _) ?_
  refine lv_aload_n Z.1 Z.2.1 dX5_meet_27 rfl (lv_at hl 2 rfl) ?_
  refine lv_iload Z.1 Z.2.1 dX5_meet_28 (lv_at hl 1 rfl) ?_
  refine lv_iload_n Z.1 Z.2.1 dX5_meet_30 rfl (lv_at hl 5 rfl) ?_
  refine zk_ci (WF := fun (_ : Unit) => [(a 2, .inr (5, [.ref (a 20), .ref (a 21), .ref (a 22), .int (nI n), .int (nI hide), .ref (a 1), .ref (a 23), .ref (a 24), .int (nI ver), .int ew, .int (zk_b ek)])), (a 20, .inl (g 0, 7, .inl (fun i => nI (P i)))), (a 21, .inl (g 0, 7, .inl (fun i => nI (S i)))), (a 22, .inl (g 0, 7, .inl (fun i => nI (Q i)))), (a 23, .inl (g 2, 3024, .inl T)), (a 1, .inr (2, [.ref (a 10), .ref (a 11), .ref (a 12), .ref kc, .ref kv, .ref kn, .ref km, .int (nI sz), .int ns, .int (nI ln), .int at1, .int ft])), (a 10, .inl (g 0, 6, .inl nm)), (a 12, .inl (g 0, 128, .inl stk)), (kc, .inl (g 0, 128, .inl (fun i => nI (C i)))), (kv, .inl (g 0, 128, .inl (fun i => nI (X i))))]) (wr := [(a 22, .inl (g 0, 7, .inl (fun i => nI (Q i)))), (a 23, .inl (g 2, 3024, .inl T)), (a 1, .inr (2, [.ref (a 10), .ref (a 11), .ref (a 12), .ref kc, .ref kv, .ref kn, .ref km, .int (nI sz), .int ns, .int (nI ln), .int at1, .int ft])), (a 10, .inl (g 0, 6, .inl nm)), (a 12, .inl (g 0, 128, .inl stk)), (kc, .inl (g 0, 128, .inl (fun i => nI (C i)))), (kv, .inl (g 0, 128, .inl (fun i => nI (X i))))]) ⟨rfl, rfl⟩ (zk_rv (As := [.int (nI i), .int (nI t)]) (rest := [.int (nI ((j * (j - 1)) / 2 + i)), .ref (a 2)]) (q0 := 0) (ci := 5) Z ((ct_X5_phase l D g τ a n hide ver ew ek P S i t (by omega) (by exact w1.1) (by exact w1.2.1) (by exact w1.2.2) (by omega)) sS.heap.size) hK hT hA G [0, 1, 2] rfl (by decide) rfl rfl gX5_meet_X5_phase rfl dvX5_phase ⟨by decide, by decide⟩ rfl hl.1 rfl (Nat.le_of_ble_eq_true rfl) dX5_meet_31 ⟨Nat.zero_le _, Nat.zero_le _⟩) hA G [0, 1, 2] [3, 4, 5, 6, 7, 8, 9] [7, 8, 9, 0, 1, 2, 3, 4, 5, 6] rfl rfl (by decide) (by decide) (by decide) (fun _ => rfl) (fun r_31 _ H locs w_31 G => ?_)
  obtain rfl : r_31 = nI (zs_ph P S i t) := w_31
  refine lv_aload_n Z.1 Z.2.1 dX5_meet_34 rfl (lv_at hl 2 rfl) ?_
  refine lv_iload Z.1 Z.2.1 dX5_meet_35 (lv_at hl 0 rfl) ?_
  refine lv_iload_n Z.1 Z.2.1 dX5_meet_37 rfl (lv_at hl 5 rfl) ?_
  refine zk_ci (WF := fun (_ : Unit) => [(a 2, .inr (5, [.ref (a 20), .ref (a 21), .ref (a 22), .int (nI n), .int (nI hide), .ref (a 1), .ref (a 23), .ref (a 24), .int (nI ver), .int ew, .int (zk_b ek)])), (a 20, .inl (g 0, 7, .inl (fun i => nI (P i)))), (a 21, .inl (g 0, 7, .inl (fun i => nI (S i)))), (a 22, .inl (g 0, 7, .inl (fun i => nI (Q i)))), (a 23, .inl (g 2, 3024, .inl T)), (a 1, .inr (2, [.ref (a 10), .ref (a 11), .ref (a 12), .ref kc, .ref kv, .ref kn, .ref km, .int (nI sz), .int ns, .int (nI ln), .int at1, .int ft])), (a 10, .inl (g 0, 6, .inl nm)), (a 12, .inl (g 0, 128, .inl stk)), (kc, .inl (g 0, 128, .inl (fun i => nI (C i)))), (kv, .inl (g 0, 128, .inl (fun i => nI (X i))))]) (wr := [(a 22, .inl (g 0, 7, .inl (fun i => nI (Q i)))), (a 23, .inl (g 2, 3024, .inl T)), (a 1, .inr (2, [.ref (a 10), .ref (a 11), .ref (a 12), .ref kc, .ref kv, .ref kn, .ref km, .int (nI sz), .int ns, .int (nI ln), .int at1, .int ft])), (a 10, .inl (g 0, 6, .inl nm)), (a 12, .inl (g 0, 128, .inl stk)), (kc, .inl (g 0, 128, .inl (fun i => nI (C i)))), (kv, .inl (g 0, 128, .inl (fun i => nI (X i))))]) ⟨rfl, rfl⟩ (zk_rv (As := [.int (nI j), .int (nI t)]) (rest := [.int (nI (zs_ph P S i t)), .int (nI ((j * (j - 1)) / 2 + i)), .ref (a 2)]) (q0 := 0) (ci := 5) Z ((ct_X5_phase l D g τ a n hide ver ew ek P S j t (by omega) (by exact w2.1) (by exact w2.2.1) (by exact w2.2.2) (by omega)) H.size) hK hT hA G [0, 1, 2] rfl (by decide) rfl rfl gX5_meet_X5_phase rfl dvX5_phase ⟨by decide, by decide⟩ rfl hl.1 rfl (Nat.le_of_ble_eq_true rfl) dX5_meet_38 ⟨Nat.zero_le _, Nat.zero_le _⟩) hA G [0, 1, 2] [3, 4, 5, 6, 7, 8, 9] [7, 8, 9, 0, 1, 2, 3, 4, 5, 6] rfl rfl (by decide) (by decide) (by decide) (fun _ => rfl) (fun r_38 _ H locs w_38 G => ?_)
  obtain rfl : r_38 = nI (zs_ph P S j t) := w_38
  refine zk_ci (WF := fun uu => [(a 2, .inr (5, [.ref (a 20), .ref (a 21), .ref (a 22), .int (nI n), .int (nI hide), .ref (a 1), .ref (a 23), .ref (a 24), .int (nI ver), .int ew, .int (zk_b ek)])), (a 20, .inl (g 0, 7, .inl (fun i => nI (P i)))), (a 21, .inl (g 0, 7, .inl (fun i => nI (S i)))), (a 22, .inl (g 0, 7, .inl (fun i => nI (Q i)))), (a 23, .inl (g 2, 3024, .inl uu.1)), (a 1, .inr (2, [.ref (a 10), .ref (a 11), .ref (a 12), .ref kc, .ref kv, .ref kn, .ref km, .int (nI sz), .int ns, .int (nI ln), .int at1, .int ft])), (a 10, .inl (g 0, 6, .inl uu.2.1)), (a 12, .inl (g 0, 128, .inl uu.2.2)), (kc, .inl (g 0, 128, .inl (fun i => nI (C i)))), (kv, .inl (g 0, 128, .inl (fun i => nI (X i))))]) (wr := [(a 21, .inl (g 0, 7, .inl (fun i => nI (S i))))]) ⟨rfl, rfl⟩ (zk_rv (As := [.int (nI ((j * (j - 1)) / 2 + i)), .int (nI (zs_ph P S i t)), .int (nI (zs_ph P S j t))]) (rest := []) (q0 := 0) (ci := 5) Z ((ct_X5_look l D g τ a n hide ver ew ek P S Q T kc kv kn km sz ns ln at1 ft C X nm stk ((j * (j - 1)) / 2 + i) (zs_ph P S i t) (zs_ph P S j t) (by exact hwf) (by omega) (by exact hW) (by exact e1) (by rw [e3]; exact hjn) (by rw [e2]; exact h1) (by rw [e3]; exact h2) (by exact hok)) H.size) hK hT hA G [0, 1, 3, 4, 5, 6, 7, 8, 9] rfl (by decide) rfl rfl gX5_meet_X5_look rfl dvX5_look ⟨by decide, by decide⟩ rfl hl.1 rfl (Nat.le_of_ble_eq_true rfl) dX5_meet_41 ⟨Nat.zero_le _, Nat.zero_le _⟩) hA G [0, 1, 3, 4, 5, 6, 7, 8, 9] [2] [1, 2, 0, 3, 4, 5, 6, 7, 8, 9] rfl rfl (by decide) (by decide) (by decide) (fun _ => rfl) (fun r_41 uu H locs w_41 G => ?_)
  obtain ⟨T1_41, nm1_41, stk1_41⟩ := uu
  have G : zk_G D aA [(a 2, .inr (5, [.ref (a 20), .ref (a 21), .ref (a 22), .int (nI n), .int (nI hide), .ref (a 1), .ref (a 23), .ref (a 24), .int (nI ver), .int ew, .int (zk_b ek)])), (a 20, .inl (g 0, 7, .inl (fun i => nI (P i)))), (a 21, .inl (g 0, 7, .inl (fun i => nI (S i)))), (a 22, .inl (g 0, 7, .inl (fun i => nI (Q i)))), (a 23, .inl (g 2, 3024, .inl T1_41)), (a 1, .inr (2, [.ref (a 10), .ref (a 11), .ref (a 12), .ref kc, .ref kv, .ref kn, .ref km, .int (nI sz), .int ns, .int (nI ln), .int at1, .int ft])), (a 10, .inl (g 0, 6, .inl nm1_41)), (a 12, .inl (g 0, 128, .inl stk1_41)), (kc, .inl (g 0, 128, .inl (fun i => nI (C i)))), (kv, .inl (g 0, 128, .inl (fun i => nI (X i))))] sS H locs := G
  obtain ⟨h0_41, w_41⟩ := w_41
  obtain rfl : r_41 = zk_b (zs_sk (decide (0 < sz)) (zl_ev C X sz) P Q hide ((j * (j - 1)) / 2 + i) (zs_ph P S i t) (zs_ph P S j t)) := h0_41
  exact zk_retz Z hR_ hlk hK hQ G (T1_41, nm1_41, stk1_41) ⟨congrArg zk_b (by simp only [zs_sk, zs_meet, e2, e3, ← hi, ← hj]), w_41⟩ rfl dX5_meet_44

abbrev rm_X5_word : Room := { frames := 4, cells := 0, slots := 0, locals := 120 }
theorem dvX5_word : zk_dv yX5_word RX5 0 := by decide +kernel
set_option maxRecDepth 100000 in
set_option maxHeartbeats 4000000 in
theorem ct_X5_word (l : Launch) (D : va_G) (g : Nat → ClassId) (τ : Nat → Nat) (a : Nat → Nat) (n : Nat) (hide : Nat) (ver : Nat) (ew : Int32) (ek : Bool) (P : Nat → Nat) (S : Nat → Nat) (Q : Nat → Nat) (T : Nat → Int32) (kc : Nat) (kv : Nat) (kn : Nat) (km : Nat) (sz : Nat) (ns : Int32) (ln : Nat) (at1 : Int32) (ft : Int32) (C : Nat → Nat) (X : Nat → Nat) (nm : Nat → Int32) (stk : Nat → Int32) (F : Nat → Nat) (hwf : zl_wf C X sz) (hhi : hide ≤ 180) (hW : zs_W n P S) (hF : ∀ i, i < n → F i < P i) (hok : zs_ok (decide (0 < sz)) (zl_ev C X sz) P Q hide n T) : zk_MI l D g τ yX5_word wsX5_word rm_X5_word [.ref (a 2)] [(a 2, .inr (5, [.ref (a 20), .ref (a 21), .ref (a 22), .int (nI n), .int (nI hide), .ref (a 1), .ref (a 23), .ref (a 24), .int (nI ver), .int ew, .int (zk_b ek)])), (a 20, .inl (g 0, 7, .inl (fun i => nI (P i)))), (a 22, .inl (g 0, 7, .inl (fun i => nI (Q i)))), (a 23, .inl (g 2, 3024, .inl T)), (a 24, .inl (g 0, 7, .inl (fun i => nI (F i)))), (a 1, .inr (2, [.ref (a 10), .ref (a 11), .ref (a 12), .ref kc, .ref kv, .ref kn, .ref km, .int (nI sz), .int ns, .int (nI ln), .int at1, .int ft])), (a 10, .inl (g 0, 6, .inl nm)), (a 12, .inl (g 0, 128, .inl stk)), (kc, .inl (g 0, 128, .inl (fun i => nI (C i)))), (kv, .inl (g 0, 128, .inl (fun i => nI (X i))))] (fun (r : Int32) (uu : (Nat → Int32) × (Nat → Int32) × (Nat → Int32)) => (r = nI (zw (zs_sF (decide (0 < sz)) (zl_ev C X sz) P Q hide F) (n * (n - 1) / 2))) ∧ (zs_ok (decide (0 < sz)) (zl_ev C X sz) P Q hide n uu.1)) (fun (uu : (Nat → Int32) × (Nat → Int32) × (Nat → Int32)) => [(a 2, .inr (5, [.ref (a 20), .ref (a 21), .ref (a 22), .int (nI n), .int (nI hide), .ref (a 1), .ref (a 23), .ref (a 24), .int (nI ver), .int ew, .int (zk_b ek)])), (a 20, .inl (g 0, 7, .inl (fun i => nI (P i)))), (a 22, .inl (g 0, 7, .inl (fun i => nI (Q i)))), (a 23, .inl (g 2, 3024, .inl uu.1)), (a 24, .inl (g 0, 7, .inl (fun i => nI (F i)))), (a 1, .inr (2, [.ref (a 10), .ref (a 11), .ref (a 12), .ref kc, .ref kv, .ref kn, .ref km, .int (nI sz), .int ns, .int (nI ln), .int at1, .int ft])), (a 10, .inl (g 0, 6, .inl uu.2.1)), (a 12, .inl (g 0, 128, .inl uu.2.2)), (kc, .inl (g 0, 128, .inl (fun i => nI (C i)))), (kv, .inl (g 0, 128, .inl (fun i => nI (X i))))]) := by
  refine zk_of (Qc := fun A => va_Qi (fun (r : Int32) (uu : (Nat → Int32) × (Nat → Int32) × (Nat → Int32)) => (r = nI (zw (zs_sF (decide (0 < sz)) (zl_ev C X sz) P Q hide F) (n * (n - 1) / 2))) ∧ (zs_ok (decide (0 < sz)) (zl_ev C X sz) P Q hide n uu.1)) (zk_B D g A (fun (uu : (Nat → Int32) × (Nat → Int32) × (Nat → Int32)) => [(a 2, .inr (5, [.ref (a 20), .ref (a 21), .ref (a 22), .int (nI n), .int (nI hide), .ref (a 1), .ref (a 23), .ref (a 24), .int (nI ver), .int ew, .int (zk_b ek)])), (a 20, .inl (g 0, 7, .inl (fun i => nI (P i)))), (a 22, .inl (g 0, 7, .inl (fun i => nI (Q i)))), (a 23, .inl (g 2, 3024, .inl uu.1)), (a 24, .inl (g 0, 7, .inl (fun i => nI (F i)))), (a 1, .inr (2, [.ref (a 10), .ref (a 11), .ref (a 12), .ref kc, .ref kv, .ref kn, .ref km, .int (nI sz), .int ns, .int (nI ln), .int at1, .int ft])), (a 10, .inl (g 0, 6, .inl uu.2.1)), (a 12, .inl (g 0, 128, .inl uu.2.2)), (kc, .inl (g 0, 128, .inl (fun i => nI (C i)))), (kv, .inl (g 0, 128, .inl (fun i => nI (X i))))])) A) (cc := cX5_word) (maxL := 5) (ret := (some .int)) (own := RX5) (by decide) rfl rfl (Nat.le_of_ble_eq_true rfl) ?_
  intro pP eE sS mM args below meth cC aA ls qQ Z hR_ hlk hnm hK hT hA hQ G hl
  have hinX5 : ∀ w ∈ u_ws RX5 TX5 11, w ∈ wsX5_word := (fun _ h => List.mem_cons_of_mem _ (List.mem_append_left _ (List.mem_append_right _ h)))
  have hn := hW.1
  refine lv_iconst (v := nI 0) Z.1 Z.2.1 dX5_word_0 (by decide +kernel) ?_
  refine lv_istore_n (lv' := [(1, .int (nI 0)), (0, .ref (a 2))]) Z.1 Z.2.1 dX5_word_1 rfl hl (by decide) rfl (fun ls hl => ?_)
  refine lv_iconst (v := nI 0) Z.1 Z.2.1 dX5_word_2 (by decide +kernel) ?_
  refine lv_istore_n (lv' := [(2, .int (nI 0)), (1, .int (nI 0)), (0, .ref (a 2))]) Z.1 Z.2.1 dX5_word_3 rfl hl (by decide) rfl (fun ls hl => ?_)
  refine lv_iconst (v := nI 1) Z.1 Z.2.1 dX5_word_4 (by decide +kernel) ?_
  refine lv_istore_n (lv' := [(3, .int (nI 1)), (2, .int (nI 0)), (1, .int (nI 0)), (0, .ref (a 2))]) Z.1 Z.2.1 dX5_word_5 rfl hl (by decide) rfl (fun ls hl => ?_)
  have L6 : ∀ (nN : Nat) (j : Nat) (T1 : Nat → Int32) (nm1 : Nat → Int32) (stk1 : Nat → Int32), n - j < nN → (j ≤ n ∨ j = 1) → (1 ≤ j) → (zs_ok (decide (0 < sz)) (zl_ev C X sz) P Q hide n T1) → ∀ (H : Heap) (locs : List Loc) (ls : Array Slot), zk_G D aA [(a 2, .inr (5, [.ref (a 20), .ref (a 21), .ref (a 22), .int (nI n), .int (nI hide), .ref (a 1), .ref (a 23), .ref (a 24), .int (nI ver), .int ew, .int (zk_b ek)])), (a 20, .inl (g 0, 7, .inl (fun i => nI (P i)))), (a 22, .inl (g 0, 7, .inl (fun i => nI (Q i)))), (a 23, .inl (g 2, 3024, .inl T1)), (a 24, .inl (g 0, 7, .inl (fun i => nI (F i)))), (a 1, .inr (2, [.ref (a 10), .ref (a 11), .ref (a 12), .ref kc, .ref kv, .ref kn, .ref km, .int (nI sz), .int ns, .int (nI ln), .int at1, .int ft])), (a 10, .inl (g 0, 6, .inl nm1)), (a 12, .inl (g 0, 128, .inl stk1)), (kc, .inl (g 0, 128, .inl (fun i => nI (C i)))), (kv, .inl (g 0, 128, .inl (fun i => nI (X i))))] sS H locs → lv_has ls 5 [(0, .ref (a 2)), (1, .int (nI (zw (zs_sF (decide (0 < sz)) (zl_ev C X sz) P Q hide F) (j * (j - 1) / 2)))), (2, .int (nI (j * (j - 1) / 2))), (3, .int (nI j))] → W pP l eE rm_X5_word sS mM args below meth cC H locs 0 0 qQ (F0 mM 6 ls []) := by
    intro nN
    induction nN with
    | zero => intros; omega
    | succ nN ih6 =>
      intro j T1 nm1 stk1 hμ h1 h2 ho H locs ls G hl
      refine lv_iload_n Z.1 Z.2.1 dX5_word_6 rfl (lv_at hl 3 rfl) ?_
      refine lv_aload_n Z.1 Z.2.1 dX5_word_7 rfl (lv_at hl 0 rfl) ?_
      refine zk_get (C := RX5) (T := TX5) (N := 11) (ci := 5) Z hK G hinX5 0 rfl rfl 3 (by decide) (List.mem_of_getElem? (i := 1) rfl) rfl (v := .int (nI n)) rfl dX5_word_8 ?_
      refine lv_icmp_ge (tgt := 65) Z.1 Z.2.1 dX5_word_11 (by decide) (fun c11 => ?_) (fun c11 => ?_)
      · have c11 : n ≤ j := zk_le (by omega) (by omega) c11
        refine lv_iload_n Z.1 Z.2.1 dX5_word_65 rfl (lv_at hl 1 rfl) ?_
        exact zk_reti Z hR_ hlk hK hQ G (T1, nm1, stk1) ⟨h1.elim (fun h1 => by rw [show j = n by omega]) (fun h1 => by subst h1; rcases (show n = 0 ∨ n = 1 by omega) with rfl | rfl <;> rfl), ho⟩ rfl dX5_word_66
      have c11 : j < n := zk_nle (by omega) (by omega) c11
      have hn := hW.1
      have e0 : j * (j - 1) ≤ 6 * 5 := Nat.mul_le_mul (by omega) (by omega)
      refine lv_iconst (v := nI 0) Z.1 Z.2.1 dX5_word_14 (by decide +kernel) ?_
      refine lv_istore (lv' := [(4, .int (nI 0)), (0, .ref (a 2)), (1, .int (nI (zw (zs_sF (decide (0 < sz)) (zl_ev C X sz) P Q hide F) (j * (j - 1) / 2)))), (2, .int (nI (j * (j - 1) / 2))), (3, .int (nI j))]) Z.1 Z.2.1 dX5_word_15 hl (by decide) rfl (fun ls hl => ?_)
      have L17 : ∀ (nN : Nat) (i : Nat) (T1 : Nat → Int32) (nm1 : Nat → Int32) (stk1 : Nat → Int32), j - i < nN → (i ≤ j) → (zs_ok (decide (0 < sz)) (zl_ev C X sz) P Q hide n T1) → ∀ (H : Heap) (locs : List Loc) (ls : Array Slot), zk_G D aA [(a 2, .inr (5, [.ref (a 20), .ref (a 21), .ref (a 22), .int (nI n), .int (nI hide), .ref (a 1), .ref (a 23), .ref (a 24), .int (nI ver), .int ew, .int (zk_b ek)])), (a 20, .inl (g 0, 7, .inl (fun i => nI (P i)))), (a 22, .inl (g 0, 7, .inl (fun i => nI (Q i)))), (a 23, .inl (g 2, 3024, .inl T1)), (a 24, .inl (g 0, 7, .inl (fun i => nI (F i)))), (a 1, .inr (2, [.ref (a 10), .ref (a 11), .ref (a 12), .ref kc, .ref kv, .ref kn, .ref km, .int (nI sz), .int ns, .int (nI ln), .int at1, .int ft])), (a 10, .inl (g 0, 6, .inl nm1)), (a 12, .inl (g 0, 128, .inl stk1)), (kc, .inl (g 0, 128, .inl (fun i => nI (C i)))), (kv, .inl (g 0, 128, .inl (fun i => nI (X i))))] sS H locs → lv_has ls 5 [(0, .ref (a 2)), (1, .int (nI (zw (zs_sF (decide (0 < sz)) (zl_ev C X sz) P Q hide F) (j * (j - 1) / 2 + i)))), (2, .int (nI (j * (j - 1) / 2 + i))), (3, .int (nI j)), (4, .int (nI i))] → W pP l eE rm_X5_word sS mM args below meth cC H locs 0 0 qQ (F0 mM 17 ls []) := by
        intro nN
        induction nN with
        | zero => intros; omega
        | succ nN ih17 =>
          intro i T1 nm1 stk1 hμ h3 ho H locs ls G hl
          refine lv_iload Z.1 Z.2.1 dX5_word_17 (lv_at hl 4 rfl) ?_
          refine lv_iload_n Z.1 Z.2.1 dX5_word_19 rfl (lv_at hl 3 rfl) ?_
          refine lv_icmp_ge (tgt := 59) Z.1 Z.2.1 dX5_word_20 (by decide) (fun c20 => ?_) (fun c20 => ?_)
          · have c20 : j ≤ i := zk_le (by omega) (by omega) c20
            have ei : i = j := by omega
            subst ei
            have e9 := zw_tri (j := i) (by omega)
            have hl : lv_has ls 5 [(0, .ref (a 2)), (1, .int (nI (zw (zs_sF (decide (0 < sz)) (zl_ev C X sz) P Q hide F) ((i + 1) * (i + 1 - 1) / 2)))), (2, .int (nI ((i + 1) * (i + 1 - 1) / 2))), (3, .int (nI i)), (4, .int (nI i))] := by rw [← e9]; exact hl
            refine lv_iinc (v := nI (i + 1)) (lv' := [(3, .int (nI (i + 1))), (0, .ref (a 2)), (1, .int (nI (zw (zs_sF (decide (0 < sz)) (zl_ev C X sz) P Q hide F) ((i + 1) * (i + 1 - 1) / 2)))), (2, .int (nI ((i + 1) * (i + 1 - 1) / 2))), (4, .int (nI i))]) Z.1 Z.2.1 dX5_word_59 hl (k := 3) rfl (zk_inc i 1) (by decide) rfl (fun ls hl => ?_)
            refine lv_goto (tgt := 6) Z.1 Z.2.1 dX5_word_62 (by decide) ?_
            exact ih6 (i + 1) T1 nm1 stk1 (by omega) (by exact Or.inl (by omega)) (by omega) (by exact ho) _ _ _ G (lv_sub hl [1, 2, 3, 0] rfl)
          have c20 : i < j := zk_nle (by omega) (by omega) c20
          obtain ⟨e1, e2, e3⟩ := zk_pr c20 (show j < 7 by omega)
          have f1 := hF i (by omega)
          have f2 := hF j c11
          refine lv_aload_n Z.1 Z.2.1 dX5_word_23 rfl (lv_at hl 0 rfl) ?_
          refine lv_iload_n Z.1 Z.2.1 dX5_word_24 rfl (lv_at hl 2 rfl) ?_
          refine lv_aload_n Z.1 Z.2.1 dX5_word_25 rfl (lv_at hl 0 rfl) ?_
          refine zk_get (C := RX5) (T := TX5) (N := 11) (ci := 5) Z hK G hinX5 0 rfl rfl 7 (by decide) (List.mem_of_getElem? (i := 2) rfl) rfl (v := .ref (a 24)) rfl dX5_word_26 ?_
          refine lv_iload Z.1 Z.2.1 dX5_word_29 (lv_at hl 4 rfl) ?_
          refine zk_iald Z hK G 4 rfl (k := i) (by omega) (by decide) (v := nI (F i)) rfl dX5_word_31 ?_
          refine lv_aload_n Z.1 Z.2.1 dX5_word_32 rfl (lv_at hl 0 rfl) ?_
          refine zk_get (C := RX5) (T := TX5) (N := 11) (ci := 5) Z hK G hinX5 0 rfl rfl 7 (by decide) (List.mem_of_getElem? (i := 2) rfl) rfl (v := .ref (a 24)) rfl dX5_word_33 ?_
          refine lv_iload_n Z.1 Z.2.1 dX5_word_36 rfl (lv_at hl 3 rfl) ?_
          refine zk_iald Z hK G 4 rfl (k := j) (by omega) (by decide) (v := nI (F j)) rfl dX5_word_37 ?_
          refine zk_ci (WF := fun uu => [(a 2, .inr (5, [.ref (a 20), .ref (a 21), .ref (a 22), .int (nI n), .int (nI hide), .ref (a 1), .ref (a 23), .ref (a 24), .int (nI ver), .int ew, .int (zk_b ek)])), (a 20, .inl (g 0, 7, .inl (fun i => nI (P i)))), (a 22, .inl (g 0, 7, .inl (fun i => nI (Q i)))), (a 23, .inl (g 2, 3024, .inl uu.1)), (a 24, .inl (g 0, 7, .inl (fun i => nI (F i)))), (a 1, .inr (2, [.ref (a 10), .ref (a 11), .ref (a 12), .ref kc, .ref kv, .ref kn, .ref km, .int (nI sz), .int ns, .int (nI ln), .int at1, .int ft])), (a 10, .inl (g 0, 6, .inl uu.2.1)), (a 12, .inl (g 0, 128, .inl uu.2.2)), (kc, .inl (g 0, 128, .inl (fun i => nI (C i)))), (kv, .inl (g 0, 128, .inl (fun i => nI (X i))))]) (wr := [(a 24, .inl (g 0, 7, .inl (fun i => nI (F i))))]) ⟨rfl, rfl⟩ (zk_rv (As := [.int (nI (j * (j - 1) / 2 + i)), .int (nI (F i)), .int (nI (F j))]) (rest := []) (q0 := 0) (ci := 5) Z ((ct_X5_look l D g τ a n hide ver ew ek P S Q T1 kc kv kn km sz ns ln at1 ft C X nm1 stk1 (j * (j - 1) / 2 + i) (F i) (F j) (by exact hwf) (by omega) (by exact hW) (by exact e1) (by rw [e3]; exact c11) (by rw [e2]; exact f1) (by rw [e3]; exact f2) (by exact ho)) H.size) hK hT hA G [0, 1, 2, 3, 5, 6, 7, 8, 9] rfl (by decide) rfl rfl gX5_word_X5_look rfl dvX5_look ⟨by decide, by decide⟩ rfl hl.1 rfl (Nat.le_of_ble_eq_true rfl) dX5_word_38 ⟨Nat.zero_le _, Nat.zero_le _⟩) hA G [0, 1, 2, 3, 5, 6, 7, 8, 9] [4] [1, 2, 3, 4, 0, 5, 6, 7, 8, 9] rfl rfl (by decide) (by decide) (by decide) (fun _ => rfl) (fun r_38 uu H locs w_38 G => ?_)
          obtain ⟨T1_38, nm1_38, stk1_38⟩ := uu
          have G : zk_G D aA [(a 2, .inr (5, [.ref (a 20), .ref (a 21), .ref (a 22), .int (nI n), .int (nI hide), .ref (a 1), .ref (a 23), .ref (a 24), .int (nI ver), .int ew, .int (zk_b ek)])), (a 20, .inl (g 0, 7, .inl (fun i => nI (P i)))), (a 22, .inl (g 0, 7, .inl (fun i => nI (Q i)))), (a 23, .inl (g 2, 3024, .inl T1_38)), (a 24, .inl (g 0, 7, .inl (fun i => nI (F i)))), (a 1, .inr (2, [.ref (a 10), .ref (a 11), .ref (a 12), .ref kc, .ref kv, .ref kn, .ref km, .int (nI sz), .int ns, .int (nI ln), .int at1, .int ft])), (a 10, .inl (g 0, 6, .inl nm1_38)), (a 12, .inl (g 0, 128, .inl stk1_38)), (kc, .inl (g 0, 128, .inl (fun i => nI (C i)))), (kv, .inl (g 0, 128, .inl (fun i => nI (X i))))] sS H locs := G
          obtain ⟨h0_38, w_38⟩ := w_38
          obtain rfl : r_38 = zk_b (zs_sk (decide (0 < sz)) (zl_ev C X sz) P Q hide (j * (j - 1) / 2 + i) (F i) (F j)) := h0_38
          have ho_ := w_38
          refine lv_if_eq (tgt := 50) Z.1 Z.2.1 dX5_word_41 (by decide) (fun c41 => ?_) (fun c41 => ?_)
          · have c41 : zs_sk (decide (0 < sz)) (zl_ev C X sz) P Q hide (j * (j - 1) / 2 + i) (F i) (F j) = false := zk_b0.mp c41
            have e5 : zs_sk (decide (0 < sz)) (zl_ev C X sz) P Q hide (j * (j - 1) / 2 + i) (F i) (F j) = zs_sF (decide (0 < sz)) (zl_ev C X sz) P Q hide F (j * (j - 1) / 2 + i) := by simp only [zs_sF, e2, e3]
            have e6 : nI (zw (zs_sF (decide (0 < sz)) (zl_ev C X sz) P Q hide F) (j * (j - 1) / 2 + i)) = nI (zw (zs_sF (decide (0 < sz)) (zl_ev C X sz) P Q hide F) (j * (j - 1) / 2 + i + 1)) := by simp only [zw]; rw [← e5, c41]; rfl
            have hl : lv_has ls 5 [(0, .ref (a 2)), (1, .int (nI (zw (zs_sF (decide (0 < sz)) (zl_ev C X sz) P Q hide F) (j * (j - 1) / 2 + i + 1)))), (2, .int (nI (j * (j - 1) / 2 + i))), (3, .int (nI j)), (4, .int (nI i))] := by rw [← e6]; exact hl
            refine lv_iinc (v := nI ((j * (j - 1) / 2 + i) + 1)) (lv' := [(2, .int (nI ((j * (j - 1) / 2 + i) + 1))), (0, .ref (a 2)), (1, .int (nI (zw (zs_sF (decide (0 < sz)) (zl_ev C X sz) P Q hide F) (j * (j - 1) / 2 + i + 1)))), (3, .int (nI j)), (4, .int (nI i))]) Z.1 Z.2.1 dX5_word_50 hl (k := 2) rfl (zk_inc (j * (j - 1) / 2 + i) 1) (by decide) rfl (fun ls hl => ?_)
            refine lv_iinc (v := nI (i + 1)) (lv' := [(4, .int (nI (i + 1))), (2, .int (nI ((j * (j - 1) / 2 + i) + 1))), (0, .ref (a 2)), (1, .int (nI (zw (zs_sF (decide (0 < sz)) (zl_ev C X sz) P Q hide F) (j * (j - 1) / 2 + i + 1)))), (3, .int (nI j))]) Z.1 Z.2.1 dX5_word_53 hl (k := 4) rfl (zk_inc i 1) (by decide) rfl (fun ls hl => ?_)
            refine lv_goto (tgt := 17) Z.1 Z.2.1 dX5_word_56 (by decide) ?_
            exact ih17 (i + 1) T1_38 nm1_38 stk1_38 (by omega) (by omega) (by exact ho_) _ _ _ G (lv_sub hl [2, 3, 1, 4, 0] rfl)
          have c41 : zs_sk (decide (0 < sz)) (zl_ev C X sz) P Q hide (j * (j - 1) / 2 + i) (F i) (F j) = true := zk_b1.mp c41
          refine lv_iload_n Z.1 Z.2.1 dX5_word_44 rfl (lv_at hl 1 rfl) ?_
          refine lv_iconst (v := nI 1) Z.1 Z.2.1 dX5_word_45 (by decide +kernel) ?_
          refine lv_iload_n Z.1 Z.2.1 dX5_word_46 rfl (lv_at hl 2 rfl) ?_
          refine zk_ishl Z dX5_word_47 (z := nI (2 ^ (j * (j - 1) / 2 + i))) (zw_1 (by omega)) ?_
          refine zk_ior Z dX5_word_48 (z := (nI (zw (zs_sF (decide (0 < sz)) (zl_ev C X sz) P Q hide F) (j * (j - 1) / 2 + i))) ||| (nI (2 ^ (j * (j - 1) / 2 + i)))) rfl ?_
          refine lv_istore_n (lv' := [(1, .int ((nI (zw (zs_sF (decide (0 < sz)) (zl_ev C X sz) P Q hide F) (j * (j - 1) / 2 + i))) ||| (nI (2 ^ (j * (j - 1) / 2 + i))))), (0, .ref (a 2)), (2, .int (nI (j * (j - 1) / 2 + i))), (3, .int (nI j)), (4, .int (nI i))]) Z.1 Z.2.1 dX5_word_49 rfl hl (by decide) rfl (fun ls hl => ?_)
          have e5 : zs_sk (decide (0 < sz)) (zl_ev C X sz) P Q hide (j * (j - 1) / 2 + i) (F i) (F j) = zs_sF (decide (0 < sz)) (zl_ev C X sz) P Q hide F (j * (j - 1) / 2 + i) := by simp only [zs_sF, e2, e3]
          have e6 : (nI (zw (zs_sF (decide (0 < sz)) (zl_ev C X sz) P Q hide F) (j * (j - 1) / 2 + i))) ||| (nI (2 ^ (j * (j - 1) / 2 + i))) = nI (zw (zs_sF (decide (0 < sz)) (zl_ev C X sz) P Q hide F) (j * (j - 1) / 2 + i + 1)) := by rw [zw_or, zw_or1]; simp only [zw]; rw [← e5, c41]; rfl
          have hl : lv_has ls 5 [(1, .int (nI (zw (zs_sF (decide (0 < sz)) (zl_ev C X sz) P Q hide F) (j * (j - 1) / 2 + i + 1)))), (0, .ref (a 2)), (2, .int (nI (j * (j - 1) / 2 + i))), (3, .int (nI j)), (4, .int (nI i))] := by rw [← e6]; exact hl
          refine lv_iinc (v := nI ((j * (j - 1) / 2 + i) + 1)) (lv' := [(2, .int (nI ((j * (j - 1) / 2 + i) + 1))), (1, .int (nI (zw (zs_sF (decide (0 < sz)) (zl_ev C X sz) P Q hide F) (j * (j - 1) / 2 + i + 1)))), (0, .ref (a 2)), (3, .int (nI j)), (4, .int (nI i))]) Z.1 Z.2.1 dX5_word_50 hl (k := 2) rfl (zk_inc (j * (j - 1) / 2 + i) 1) (by decide) rfl (fun ls hl => ?_)
          refine lv_iinc (v := nI (i + 1)) (lv' := [(4, .int (nI (i + 1))), (2, .int (nI ((j * (j - 1) / 2 + i) + 1))), (1, .int (nI (zw (zs_sF (decide (0 < sz)) (zl_ev C X sz) P Q hide F) (j * (j - 1) / 2 + i + 1)))), (0, .ref (a 2)), (3, .int (nI j))]) Z.1 Z.2.1 dX5_word_53 hl (k := 4) rfl (zk_inc i 1) (by decide) rfl (fun ls hl => ?_)
          refine lv_goto (tgt := 17) Z.1 Z.2.1 dX5_word_56 (by decide) ?_
          exact ih17 (i + 1) T1_38 nm1_38 stk1_38 (by omega) (by omega) (by exact ho_) _ _ _ G (lv_sub hl [3, 2, 1, 4, 0] rfl)
      exact L17 _ 0 T1 nm1 stk1 (Nat.lt_succ_self _) (by omega) (by exact ho) _ _ _ G (lv_sub hl [1, 2, 3, 4, 0] rfl)
  exact L6 _ 1 T nm stk (Nat.lt_succ_self _) (by exact Or.inr rfl) (by omega) (by exact hok) _ _ _ G (lv_sub hl [3, 2, 1, 0] rfl)

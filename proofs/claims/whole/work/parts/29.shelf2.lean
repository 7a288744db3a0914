def zh_oth (fit ph : Nat) : Bool := decide (¬ nI fit &&& (nI (2 ^ ph) ^^^ (-1)) = 0)

abbrev rm_X7_whose : Room := { frames := 7, cells := 0, slots := 0, locals := 195 }
theorem dvX7_whose : zk_dv yX7_whose RX7 1 := by decide +kernel
set_option maxRecDepth 100000 in
set_option maxHeartbeats 4000000 in
theorem ct_X7_whose (l : Launch) (D : va_G) (g : Nat → ClassId) (τ : Nat → Nat) (a : Nat → Nat) (pic : Bool) (storm : Nat) (chance : Int32) (n : Nat) (hide : Nat) (ver : Nat) (ew : Int32) (ek : Bool) (P : Nat → Nat) (S : Nat → Nat) (Q : Nat → Nat) (T : Nat → Int32) (kc : Nat) (kv : Nat) (kn : Nat) (km : Nat) (sz : Nat) (ns : Int32) (ln : Nat) (at1 : Int32) (ft : Int32) (C : Nat → Nat) (X : Nat → Nat) (nm : Nat → Int32) (stk : Nat → Int32) (sf : Nat → Option Nat) (so : Nat) (si : Nat) (sort : Int32) (len : Nat) (rel : Int32) (It : Nat → Int64) (x : Int32) (hwf : zl_wf C X sz) (hhi : hide ≤ 180) (hW : zs_W n P S) (hok : zs_ok (decide (0 < sz)) (zl_ev C X sz) P Q hide n T) (hlen : len ≤ 60) (hsf : zb_w 6 x = true → sf (x.toInt.toNat) = some so) : zk_MI l D g τ yX7_whose wsX7_whose rm_X7_whose [.ref (a 0), .int x] [(a 0, .inr (7, [.ref (a 1), .ref (a 2), .ref (a 3), .ref (a 4), .ref (a 50), .ref (a 60), .ref (a 7), .ref (a 8), .int (zk_b pic), .int (nI storm), .int chance])), (a 2, .inr (5, [.ref (a 20), .ref (a 21), .ref (a 22), .int (nI n), .int (nI hide), .ref (a 1), .ref (a 23), .ref (a 24), .int (nI ver), .int ew, .int (zk_b ek)])), (a 20, .inl (g 0, 7, .inl (fun i => nI (P i)))), (a 21, .inl (g 0, 7, .inl (fun i => nI (S i)))), (a 22, .inl (g 0, 7, .inl (fun i => nI (Q i)))), (a 23, .inl (g 2, 3024, .inl T)), (a 1, .inr (2, [.ref (a 10), .ref (a 11), .ref (a 12), .ref kc, .ref kv, .ref kn, .ref km, .int (nI sz), .int ns, .int (nI ln), .int at1, .int ft])), (a 10, .inl (g 0, 6, .inl nm)), (a 12, .inl (g 0, 128, .inl stk)), (kc, .inl (g 0, 128, .inl (fun i => nI (C i)))), (kv, .inl (g 0, 128, .inl (fun i => nI (X i)))), (so, .inr (4, [.ref si, .int sort, .int (nI len), .int rel])), (si, .inl (g 1, 60, .inr (.inl It))), (a 8, .inl (g 4, 6, .inr (.inr (.inr (.inr sf)))))] (fun (r : Int32) (uu : (Nat → Int32) × (Nat → Int32) × (Nat → Int32)) => (r = zh_judge (zh_rb x sort rel) (nI (zw (fun w => zh_oth (zw (fun s => decide (zu_fw n (zs_meet (decide (0 < sz)) (zl_ev C X sz) P (zs_up S w s) Q hide) It len 21 0 = -2)) (P w)) (zs_ph P S w 0)) n))) ∧ (zs_ok (decide (0 < sz)) (zl_ev C X sz) P Q hide n uu.1)) (fun (uu : (Nat → Int32) × (Nat → Int32) × (Nat → Int32)) => [(a 0, .inr (7, [.ref (a 1), .ref (a 2), .ref (a 3), .ref (a 4), .ref (a 50), .ref (a 60), .ref (a 7), .ref (a 8), .int (zk_b pic), .int (nI storm), .int chance])), (a 2, .inr (5, [.ref (a 20), .ref (a 21), .ref (a 22), .int (nI n), .int (nI hide), .ref (a 1), .ref (a 23), .ref (a 24), .int (nI ver), .int ew, .int (zk_b ek)])), (a 20, .inl (g 0, 7, .inl (fun i => nI (P i)))), (a 21, .inl (g 0, 7, .inl (fun i => nI (S i)))), (a 22, .inl (g 0, 7, .inl (fun i => nI (Q i)))), (a 23, .inl (g 2, 3024, .inl uu.1)), (a 1, .inr (2, [.ref (a 10), .ref (a 11), .ref (a 12), .ref kc, .ref kv, .ref kn, .ref km, .int (nI sz), .int ns, .int (nI ln), .int at1, .int ft])), (a 10, .inl (g 0, 6, .inl uu.2.1)), (a 12, .inl (g 0, 128, .inl uu.2.2)), (kc, .inl (g 0, 128, .inl (fun i => nI (C i)))), (kv, .inl (g 0, 128, .inl (fun i => nI (X i)))), (so, .inr (4, [.ref si, .int sort, .int (nI len), .int rel])), (si, .inl (g 1, 60, .inr (.inl It))), (a 8, .inl (g 4, 6, .inr (.inr (.inr (.inr sf)))))]) := by
  refine zk_of (Qc := fun A => va_Qi (fun (r : Int32) (uu : (Nat → Int32) × (Nat → Int32) × (Nat → Int32)) => (r = zh_judge (zh_rb x sort rel) (nI (zw (fun w => zh_oth (zw (fun s => decide (zu_fw n (zs_meet (decide (0 < sz)) (zl_ev C X sz) P (zs_up S w s) Q hide) It len 21 0 = -2)) (P w)) (zs_ph P S w 0)) n))) ∧ (zs_ok (decide (0 < sz)) (zl_ev C X sz) P Q hide n uu.1)) (zk_B D g A (fun (uu : (Nat → Int32) × (Nat → Int32) × (Nat → Int32)) => [(a 0, .inr (7, [.ref (a 1), .ref (a 2), .ref (a 3), .ref (a 4), .ref (a 50), .ref (a 60), .ref (a 7), .ref (a 8), .int (zk_b pic), .int (nI storm), .int chance])), (a 2, .inr (5, [.ref (a 20), .ref (a 21), .ref (a 22), .int (nI n), .int (nI hide), .ref (a 1), .ref (a 23), .ref (a 24), .int (nI ver), .int ew, .int (zk_b ek)])), (a 20, .inl (g 0, 7, .inl (fun i => nI (P i)))), (a 21, .inl (g 0, 7, .inl (fun i => nI (S i)))), (a 22, .inl (g 0, 7, .inl (fun i => nI (Q i)))), (a 23, .inl (g 2, 3024, .inl uu.1)), (a 1, .inr (2, [.ref (a 10), .ref (a 11), .ref (a 12), .ref kc, .ref kv, .ref kn, .ref km, .int (nI sz), .int ns, .int (nI ln), .int at1, .int ft])), (a 10, .inl (g 0, 6, .inl uu.2.1)), (a 12, .inl (g 0, 128, .inl uu.2.2)), (kc, .inl (g 0, 128, .inl (fun i => nI (C i)))), (kv, .inl (g 0, 128, .inl (fun i => nI (X i)))), (so, .inr (4, [.ref si, .int sort, .int (nI len), .int rel])), (si, .inl (g 1, 60, .inr (.inl It))), (a 8, .inl (g 4, 6, .inr (.inr (.inr (.inr sf)))))])) A) (cc := cX7_whose) (maxL := 6) (ret := (some .int)) (own := RX7) (by decide) rfl rfl (Nat.le_of_ble_eq_true rfl) ?_
  intro pP eE sS mM args below meth cC aA ls qQ Z hR_ hlk hnm hK hT hA hQ G hl
  have hinX5 : ∀ w ∈ u_ws RX5 TX5 11, w ∈ wsX7_whose := (fun _ h => List.mem_cons_of_mem _ (List.mem_append_left _ (List.mem_append_left _ (List.mem_append_right _ h))))
  have hinX7 : ∀ w ∈ u_ws RX7 TX7 11, w ∈ wsX7_whose := (fun _ h => List.mem_cons_of_mem _ (List.mem_append_left _ (List.mem_append_left _ (List.mem_append_left _ (List.mem_append_right _ h)))))
  have hn := hW.1
  refine lv_aload_n Z.1 Z.2.1 dX7_whose_0 rfl (lv_at hl 0 rfl) ?_
  refine lv_iload_n Z.1 Z.2.1 dX7_whose_1 rfl (lv_at hl 1 rfl) ?_
  refine zk_ci (WF := fun (_ : Unit) => [(a 0, .inr (7, [.ref (a 1), .ref (a 2), .ref (a 3), .ref (a 4), .ref (a 50), .ref (a 60), .ref (a 7), .ref (a 8), .int (zk_b pic), .int (nI storm), .int chance])), (a 2, .inr (5, [.ref (a 20), .ref (a 21), .ref (a 22), .int (nI n), .int (nI hide), .ref (a 1), .ref (a 23), .ref (a 24), .int (nI ver), .int ew, .int (zk_b ek)])), (a 20, .inl (g 0, 7, .inl (fun i => nI (P i)))), (a 21, .inl (g 0, 7, .inl (fun i => nI (S i)))), (a 22, .inl (g 0, 7, .inl (fun i => nI (Q i)))), (a 23, .inl (g 2, 3024, .inl T)), (a 1, .inr (2, [.ref (a 10), .ref (a 11), .ref (a 12), .ref kc, .ref kv, .ref kn, .ref km, .int (nI sz), .int ns, .int (nI ln), .int at1, .int ft])), (a 10, .inl (g 0, 6, .inl nm)), (a 12, .inl (g 0, 128, .inl stk)), (kc, .inl (g 0, 128, .inl (fun i => nI (C i)))), (kv, .inl (g 0, 128, .inl (fun i => nI (X i)))), (so, .inr (4, [.ref si, .int sort, .int (nI len), .int rel])), (si, .inl (g 1, 60, .inr (.inl It))), (a 8, .inl (g 4, 6, .inr (.inr (.inr (.inr sf)))))]) (wr := [(a 2, .inr (5, [.ref (a 20), .ref (a 21), .ref (a 22), .int (nI n), .int (nI hide), .ref (a 1), .ref (a 23), .ref (a 24), .int (nI ver), .int ew, .int (zk_b ek)])), (a 20, .inl (g 0, 7, .inl (fun i => nI (P i)))), (a 21, .inl (g 0, 7, .inl (fun i => nI (S i)))), (a 22, .inl (g 0, 7, .inl (fun i => nI (Q i)))), (a 23, .inl (g 2, 3024, .inl T)), (a 1, .inr (2, [.ref (a 10), .ref (a 11), .ref (a 12), .ref kc, .ref kv, .ref kn, .ref km, .int (nI sz), .int ns, .int (nI ln), .int at1, .int ft])), (a 10, .inl (g 0, 6, .inl nm)), (a 12, .inl (g 0, 128, .inl stk)), (kc, .inl (g 0, 128, .inl (fun i => nI (C i)))), (kv, .inl (g 0, 128, .inl (fun i => nI (X i)))), (si, .inl (g 1, 60, .inr (.inl It)))]) ⟨rfl, rfl⟩ (zk_rv (As := [.int x]) (rest := []) (q0 := 0) (ci := 7) Z ((ct_X7_refusalOfBook l D g τ a pic storm chance sf so si sort len rel x (by exact hsf)) sS.heap.size) hK hT hA G [0, 13, 11] rfl (by decide) rfl rfl gX7_whose_X7_refusalOfBook rfl dvX7_refusalOfBook ⟨by decide, by decide⟩ rfl hl.1 rfl (Nat.le_of_ble_eq_true rfl) dX7_whose_2 ⟨Nat.zero_le _, Nat.zero_le _⟩) hA G [0, 13, 11] [1, 2, 3, 4, 5, 6, 7, 8, 9, 10, 12] [11, 0, 1, 2, 3, 4, 5, 6, 7, 8, 9, 13, 10, 12] rfl rfl (by decide) (by decide) (by decide) (fun _ => rfl) (fun r_2 _ H locs w_2 G => ?_)
  obtain rfl : r_2 = zh_rb x sort rel := w_2
  refine lv_istore_n (lv' := [(2, .int (zh_rb x sort rel)), (0, .ref (a 0)), (1, .int x)]) Z.1 Z.2.1 dX7_whose_5 rfl hl (by decide) rfl (fun ls hl => ?_)
  refine lv_iload_n Z.1 Z.2.1 dX7_whose_6 rfl (lv_at hl 0 rfl) ?_
  refine lv_if_eq (tgt := 12) Z.1 Z.2.1 dX7_whose_7 (by decide) (fun c7 => ?_) (fun c7 => ?_)
  · have c7 : zh_rb x sort rel = 0 := c7
    have c7_0 := c7
    obtain ⟨d, hd, rfl, hd2⟩ := zb_w_ex (zh_rb_w c7)
    have hsd : sf d = some so := by have h9 := hsf (zh_rb_w c7_0); rw [zb_nat hd] at h9; exact h9
    refine lv_iconst (v := nI 0) Z.1 Z.2.1 dX7_whose_12 (by decide +kernel) ?_
    refine lv_istore_n (lv' := [(3, .int (nI 0)), (2, .int (zh_rb (nI d) sort rel)), (0, .ref (a 0)), (1, .int (nI d))]) Z.1 Z.2.1 dX7_whose_13 rfl hl (by decide) rfl (fun ls hl => ?_)
    refine lv_iconst (v := nI 0) Z.1 Z.2.1 dX7_whose_14 (by decide +kernel) ?_
    refine lv_istore (lv' := [(4, .int (nI 0)), (3, .int (nI 0)), (2, .int (zh_rb (nI d) sort rel)), (0, .ref (a 0)), (1, .int (nI d))]) Z.1 Z.2.1 dX7_whose_15 hl (by decide) rfl (fun ls hl => ?_)
    have L17 : ∀ (nN : Nat) (w9 : Nat) (T1 : Nat → Int32) (nm1 : Nat → Int32) (stk1 : Nat → Int32), n - w9 < nN → (w9 ≤ n) → (zs_ok (decide (0 < sz)) (zl_ev C X sz) P Q hide n T1) → ∀ (H : Heap) (locs : List Loc) (ls : Array Slot), zk_G D aA [(a 0, .inr (7, [.ref (a 1), .ref (a 2), .ref (a 3), .ref (a 4), .ref (a 50), .ref (a 60), .ref (a 7), .ref (a 8), .int (zk_b pic), .int (nI storm), .int chance])), (a 2, .inr (5, [.ref (a 20), .ref (a 21), .ref (a 22), .int (nI n), .int (nI hide), .ref (a 1), .ref (a 23), .ref (a 24), .int (nI ver), .int ew, .int (zk_b ek)])), (a 20, .inl (g 0, 7, .inl (fun i => nI (P i)))), (a 21, .inl (g 0, 7, .inl (fun i => nI (S i)))), (a 22, .inl (g 0, 7, .inl (fun i => nI (Q i)))), (a 23, .inl (g 2, 3024, .inl T1)), (a 1, .inr (2, [.ref (a 10), .ref (a 11), .ref (a 12), .ref kc, .ref kv, .ref kn, .ref km, .int (nI sz), .int ns, .int (nI ln), .int at1, .int ft])), (a 10, .inl (g 0, 6, .inl nm1)), (a 12, .inl (g 0, 128, .inl stk1)), (kc, .inl (g 0, 128, .inl (fun i => nI (C i)))), (kv, .inl (g 0, 128, .inl (fun i => nI (X i)))), (so, .inr (4, [.ref si, .int sort, .int (nI len), .int rel])), (si, .inl (g 1, 60, .inr (.inl It))), (a 8, .inl (g 4, 6, .inr (.inr (.inr (.inr sf)))))] sS H locs → lv_has ls 6 [(0, .ref (a 0)), (1, .int (nI d)), (3, .int (nI (zw (fun w => zh_oth (zw (fun s => decide (zu_fw n (zs_meet (decide (0 < sz)) (zl_ev C X sz) P (zs_up S w s) Q hide) It len 21 0 = -2)) (P w)) (zs_ph P S w 0)) w9))), (4, .int (nI w9))] → W pP l eE rm_X7_whose sS mM args below meth cC H locs 0 0 qQ (F0 mM 17 ls []) := by
      intro nN
      induction nN with
      | zero => intros; omega
      | succ nN ih17 =>
        intro w9 T1 nm1 stk1 hμ h1 ho H locs ls G hl
        refine lv_iload Z.1 Z.2.1 dX7_whose_17 (lv_at hl 3 rfl) ?_
        refine lv_aload_n Z.1 Z.2.1 dX7_whose_19 rfl (lv_at hl 0 rfl) ?_
        refine zk_get (C := RX7) (T := TX7) (N := 11) (ci := 7) Z hK G hinX7 0 rfl rfl 1 (by decide) (List.mem_of_getElem? (i := 1) rfl) rfl (v := .ref (a 2)) rfl dX7_whose_20 ?_
        refine zk_get (C := RX5) (T := TX5) (N := 11) (ci := 5) Z hK G hinX5 1 rfl rfl 3 (by decide) (List.mem_of_getElem? (i := 2) rfl) rfl (v := .int (nI n)) rfl dX7_whose_23 ?_
        refine lv_icmp_ge (tgt := 76) Z.1 Z.2.1 dX7_whose_26 (by decide) (fun c26 => ?_) (fun c26 => ?_)
        · have c26 : n ≤ w9 := zk_le (by omega) (by omega) c26
          refine lv_iload_n Z.1 Z.2.1 dX7_whose_76 rfl (lv_at hl 2 rfl) ?_
          exact zk_reti Z hR_ hlk hK hQ G (T1, nm1, stk1) ⟨(by unfold zh_judge; rw [if_pos c7_0, show w9 = n by omega]), ho⟩ rfl dX7_whose_77
        have c26 : w9 < n := zk_nle (by omega) (by omega) c26
        have wq := hW.2 w9 c26
        have hph : zs_ph P S w9 0 < P w9 := zs_ph_lt wq.1
        refine lv_iconst (v := nI 1) Z.1 Z.2.1 dX7_whose_29 (by decide +kernel) ?_
        refine lv_aload_n Z.1 Z.2.1 dX7_whose_30 rfl (lv_at hl 0 rfl) ?_
        refine zk_get (C := RX7) (T := TX7) (N := 11) (ci := 7) Z hK G hinX7 0 rfl rfl 1 (by decide) (List.mem_of_getElem? (i := 1) rfl) rfl (v := .ref (a 2)) rfl dX7_whose_31 ?_
        refine lv_iload Z.1 Z.2.1 dX7_whose_34 (lv_at hl 3 rfl) ?_
        refine lv_iconst (v := nI 0) Z.1 Z.2.1 dX7_whose_36 (by decide +kernel) ?_
        refine zk_ci (WF := fun (_ : Unit) => [(a 0, .inr (7, [.ref (a 1), .ref (a 2), .ref (a 3), .ref (a 4), .ref (a 50), .ref (a 60), .ref (a 7), .ref (a 8), .int (zk_b pic), .int (nI storm), .int chance])), (a 2, .inr (5, [.ref (a 20), .ref (a 21), .ref (a 22), .int (nI n), .int (nI hide), .ref (a 1), .ref (a 23), .ref (a 24), .int (nI ver), .int ew, .int (zk_b ek)])), (a 20, .inl (g 0, 7, .inl (fun i => nI (P i)))), (a 21, .inl (g 0, 7, .inl (fun i => nI (S i)))), (a 22, .inl (g 0, 7, .inl (fun i => nI (Q i)))), (a 23, .inl (g 2, 3024, .inl T1)), (a 1, .inr (2, [.ref (a 10), .ref (a 11), .ref (a 12), .ref kc, .ref kv, .ref kn, .ref km, .int (nI sz), .int ns, .int (nI ln), .int at1, .int ft])), (a 10, .inl (g 0, 6, .inl nm1)), (a 12, .inl (g 0, 128, .inl stk1)), (kc, .inl (g 0, 128, .inl (fun i => nI (C i)))), (kv, .inl (g 0, 128, .inl (fun i => nI (X i)))), (so, .inr (4, [.ref si, .int sort, .int (nI len), .int rel])), (si, .inl (g 1, 60, .inr (.inl It))), (a 8, .inl (g 4, 6, .inr (.inr (.inr (.inr sf)))))]) (wr := [(a 0, .inr (7, [.ref (a 1), .ref (a 2), .ref (a 3), .ref (a 4), .ref (a 50), .ref (a 60), .ref (a 7), .ref (a 8), .int (zk_b pic), .int (nI storm), .int chance])), (a 22, .inl (g 0, 7, .inl (fun i => nI (Q i)))), (a 23, .inl (g 2, 3024, .inl T1)), (a 1, .inr (2, [.ref (a 10), .ref (a 11), .ref (a 12), .ref kc, .ref kv, .ref kn, .ref km, .int (nI sz), .int ns, .int (nI ln), .int at1, .int ft])), (a 10, .inl (g 0, 6, .inl nm1)), (a 12, .inl (g 0, 128, .inl stk1)), (kc, .inl (g 0, 128, .inl (fun i => nI (C i)))), (kv, .inl (g 0, 128, .inl (fun i => nI (X i)))), (so, .inr (4, [.ref si, .int sort, .int (nI len), .int rel])), (si, .inl (g 1, 60, .inr (.inl It))), (a 8, .inl (g 4, 6, .inr (.inr (.inr (.inr sf)))))]) ⟨rfl, rfl⟩ (zk_rv (As := [.int (nI w9), .int (nI 0)]) (rest := [.int (nI 1)]) (q0 := 1) (ci := 5) Z ((ct_X5_phase l D g τ a n hide ver ew ek P S w9 0 (by omega) (by exact wq.1) (by exact wq.2.1) (by exact wq.2.2) (by omega)) H.size) hK hT hA G [1, 2, 3] rfl (by decide) rfl rfl gX7_whose_X5_phase rfl dvX5_phase ⟨by decide, by decide⟩ rfl hl.1 rfl (Nat.le_of_ble_eq_true rfl) dX7_whose_37 ⟨Nat.zero_le _, Nat.zero_le _⟩) hA G [1, 2, 3] [0, 4, 5, 6, 7, 8, 9, 10, 11, 12, 13] [0, 11, 12, 13, 1, 2, 3, 4, 5, 6, 7, 8, 9, 10] rfl rfl (by decide) (by decide) (by decide) (fun _ => rfl) (fun r_37 _ H locs w_37 G => ?_)
        obtain rfl : r_37 = nI (zs_ph P S w9 0) := w_37
        refine zk_ishl Z dX7_whose_40 (z := nI (2 ^ (zs_ph P S w9 0))) (zw_1 (by omega)) ?_
        refine lv_istore (lv' := [(5, .int (nI (2 ^ (zs_ph P S w9 0)))), (0, .ref (a 0)), (1, .int (nI d)), (3, .int (nI (zw (fun w => zh_oth (zw (fun s => decide (zu_fw n (zs_meet (decide (0 < sz)) (zl_ev C X sz) P (zs_up S w s) Q hide) It len 21 0 = -2)) (P w)) (zs_ph P S w 0)) w9))), (4, .int (nI w9))]) Z.1 Z.2.1 dX7_whose_41 hl (by decide) rfl (fun ls hl => ?_)
        refine lv_aload_n Z.1 Z.2.1 dX7_whose_43 rfl (lv_at hl 1 rfl) ?_
        refine lv_aload_n Z.1 Z.2.1 dX7_whose_44 rfl (lv_at hl 1 rfl) ?_
        refine zk_get (C := RX7) (T := TX7) (N := 11) (ci := 7) Z hK G hinX7 0 rfl rfl 7 (by decide) (List.mem_of_getElem? (i := 3) rfl) rfl (v := .ref (a 8)) rfl dX7_whose_45 ?_
        refine lv_iload_n Z.1 Z.2.1 dX7_whose_48 rfl (lv_at hl 2 rfl) ?_
        refine zk_qald Z hK G 13 rfl (k := d) (by omega) (by decide) (v := so) hsd dX7_whose_49 ?_
        refine lv_iload Z.1 Z.2.1 dX7_whose_50 (lv_at hl 4 rfl) ?_
        refine zk_ci (WF := fun uu => [(a 0, .inr (7, [.ref (a 1), .ref (a 2), .ref (a 3), .ref (a 4), .ref (a 50), .ref (a 60), .ref (a 7), .ref (a 8), .int (zk_b pic), .int (nI storm), .int chance])), (a 2, .inr (5, [.ref (a 20), .ref (a 21), .ref (a 22), .int (nI n), .int (nI hide), .ref (a 1), .ref (a 23), .ref (a 24), .int (nI ver), .int ew, .int (zk_b ek)])), (a 20, .inl (g 0, 7, .inl (fun i => nI (P i)))), (a 21, .inl (g 0, 7, .inl (fun i => nI (S i)))), (a 22, .inl (g 0, 7, .inl (fun i => nI (Q i)))), (a 23, .inl (g 2, 3024, .inl uu.1)), (a 1, .inr (2, [.ref (a 10), .ref (a 11), .ref (a 12), .ref kc, .ref kv, .ref kn, .ref km, .int (nI sz), .int ns, .int (nI ln), .int at1, .int ft])), (a 10, .inl (g 0, 6, .inl uu.2.1)), (a 12, .inl (g 0, 128, .inl uu.2.2)), (kc, .inl (g 0, 128, .inl (fun i => nI (C i)))), (kv, .inl (g 0, 128, .inl (fun i => nI (X i)))), (so, .inr (4, [.ref si, .int sort, .int (nI len), .int rel])), (si, .inl (g 1, 60, .inr (.inl It))), (a 8, .inl (g 4, 6, .inr (.inr (.inr (.inr sf)))))]) (wr := [(a 8, .inl (g 4, 6, .inr (.inr (.inr (.inr sf)))))]) ⟨rfl, rfl⟩ (zk_rv (As := [.ref so, .int (nI w9)]) (rest := []) (q0 := 0) (ci := 7) Z ((ct_X7_startsThatFit l D g τ a pic storm chance n hide ver ew ek P S Q T1 kc kv kn km sz ns ln at1 ft C X nm1 stk1 so si sort len rel It w9 (by exact hwf) (by exact hhi) (by exact hW) (by exact ho) (by exact hlen) (by omega)) H.size) hK hT hA G [0, 1, 2, 3, 4, 5, 6, 7, 8, 9, 10, 11, 12] rfl (by decide) rfl rfl gX7_whose_X7_startsThatFit rfl dvX7_startsThatFit ⟨by decide, by decide⟩ rfl hl.1 rfl (Nat.le_of_ble_eq_true rfl) dX7_whose_52 ⟨Nat.zero_le _, Nat.zero_le _⟩) hA G [0, 1, 2, 3, 4, 5, 6, 7, 8, 9, 10, 11, 12] [13] [1, 2, 3, 4, 5, 6, 7, 8, 9, 10, 11, 12, 13, 0] rfl rfl (by decide) (by decide) (by decide) (fun _ => rfl) (fun r_52 uu H locs w_52 G => ?_)
        obtain ⟨T1_52, nm1_52, stk1_52⟩ := uu
        have G : zk_G D aA [(a 0, .inr (7, [.ref (a 1), .ref (a 2), .ref (a 3), .ref (a 4), .ref (a 50), .ref (a 60), .ref (a 7), .ref (a 8), .int (zk_b pic), .int (nI storm), .int chance])), (a 2, .inr (5, [.ref (a 20), .ref (a 21), .ref (a 22), .int (nI n), .int (nI hide), .ref (a 1), .ref (a 23), .ref (a 24), .int (nI ver), .int ew, .int (zk_b ek)])), (a 20, .inl (g 0, 7, .inl (fun i => nI (P i)))), (a 21, .inl (g 0, 7, .inl (fun i => nI (S i)))), (a 22, .inl (g 0, 7, .inl (fun i => nI (Q i)))), (a 23, .inl (g 2, 3024, .inl T1_52)), (a 1, .inr (2, [.ref (a 10), .ref (a 11), .ref (a 12), .ref kc, .ref kv, .ref kn, .ref km, .int (nI sz), .int ns, .int (nI ln), .int at1, .int ft])), (a 10, .inl (g 0, 6, .inl nm1_52)), (a 12, .inl (g 0, 128, .inl stk1_52)), (kc, .inl (g 0, 128, .inl (fun i => nI (C i)))), (kv, .inl (g 0, 128, .inl (fun i => nI (X i)))), (so, .inr (4, [.ref si, .int sort, .int (nI len), .int rel])), (si, .inl (g 1, 60, .inr (.inl It))), (a 8, .inl (g 4, 6, .inr (.inr (.inr (.inr sf)))))] sS H locs := G
        obtain ⟨h0_52, w_52⟩ := w_52
        obtain rfl : r_52 = nI (zw (fun s => decide (zu_fw n (zs_meet (decide (0 < sz)) (zl_ev C X sz) P (zs_up S w9 s) Q hide) It len 21 0 = -2)) (P w9)) := h0_52
        have w_52 : zs_ok (decide (0 < sz)) (zl_ev C X sz) P Q hide n T1_52 := w_52
        refine lv_iload Z.1 Z.2.1 dX7_whose_55 (lv_at hl 0 rfl) ?_
        refine lv_iconst (v := (-1)) Z.1 Z.2.1 dX7_whose_57 (by decide +kernel) ?_
        refine zk_ixor Z dX7_whose_58 (z := (nI (2 ^ (zs_ph P S w9 0))) ^^^ (-1)) rfl ?_
        refine zk_iand Z dX7_whose_59 (z := (nI (zw (fun s => decide (zu_fw n (zs_meet (decide (0 < sz)) (zl_ev C X sz) P (zs_up S w9 s) Q hide) It len 21 0 = -2)) (P w9))) &&& ((nI (2 ^ (zs_ph P S w9 0))) ^^^ (-1))) rfl ?_
        refine lv_if_eq (tgt := 70) Z.1 Z.2.1 dX7_whose_60 (by decide) (fun c60 => ?_) (fun c60 => ?_)
        · have c60 : (nI (zw (fun s => decide (zu_fw n (zs_meet (decide (0 < sz)) (zl_ev C X sz) P (zs_up S w9 s) Q hide) It len 21 0 = -2)) (P w9))) &&& ((nI (2 ^ (zs_ph P S w9 0))) ^^^ (-1)) = 0 := c60
          have e_1 : zw (fun w => zh_oth (zw (fun s => decide (zu_fw n (zs_meet (decide (0 < sz)) (zl_ev C X sz) P (zs_up S w s) Q hide) It len 21 0 = -2)) (P w)) (zs_ph P S w 0)) w9 = zw (fun w => zh_oth (zw (fun s => decide (zu_fw n (zs_meet (decide (0 < sz)) (zl_ev C X sz) P (zs_up S w s) Q hide) It len 21 0 = -2)) (P w)) (zs_ph P S w 0)) (w9 + 1) := by simp only [zw]; rw [if_neg (fun q9 => (of_decide_eq_true q9) c60), Nat.add_zero]
          have hl : lv_has ls 6 [(5, .int (nI (2 ^ (zs_ph P S w9 0)))), (0, .ref (a 0)), (1, .int (nI d)), (3, .int (nI (zw (fun w => zh_oth (zw (fun s => decide (zu_fw n (zs_meet (decide (0 < sz)) (zl_ev C X sz) P (zs_up S w s) Q hide) It len 21 0 = -2)) (P w)) (zs_ph P S w 0)) (w9 + 1)))), (4, .int (nI w9))] := by rw [← e_1]; exact hl
          refine lv_iinc (v := nI (w9 + 1)) (lv' := [(4, .int (nI (w9 + 1))), (5, .int (nI (2 ^ (zs_ph P S w9 0)))), (0, .ref (a 0)), (1, .int (nI d)), (3, .int (nI (zw (fun w => zh_oth (zw (fun s => decide (zu_fw n (zs_meet (decide (0 < sz)) (zl_ev C X sz) P (zs_up S w s) Q hide) It len 21 0 = -2)) (P w)) (zs_ph P S w 0)) (w9 + 1))))]) Z.1 Z.2.1 dX7_whose_70 hl (k := 4) rfl (zk_inc w9 1) (by decide) rfl (fun ls hl => ?_)
          refine lv_goto (tgt := 17) Z.1 Z.2.1 dX7_whose_73 (by decide) ?_
          exact ih17 (w9 + 1) T1_52 nm1_52 stk1_52 (by omega) (by omega) (by exact w_52) _ _ _ G (lv_sub hl [2, 3, 4, 0] rfl)
        have c60 : ¬ (nI (zw (fun s => decide (zu_fw n (zs_meet (decide (0 < sz)) (zl_ev C X sz) P (zs_up S w9 s) Q hide) It len 21 0 = -2)) (P w9))) &&& ((nI (2 ^ (zs_ph P S w9 0))) ^^^ (-1)) = 0 := c60
        refine lv_iload_n Z.1 Z.2.1 dX7_whose_63 rfl (lv_at hl 3 rfl) ?_
        refine lv_iconst (v := nI 1) Z.1 Z.2.1 dX7_whose_64 (by decide +kernel) ?_
        refine lv_iload Z.1 Z.2.1 dX7_whose_65 (lv_at hl 4 rfl) ?_
        refine zk_ishl Z dX7_whose_67 (z := nI (2 ^ w9)) (zw_1 (by omega)) ?_
        refine zk_ior Z dX7_whose_68 (z := nI (zw (fun w => zh_oth (zw (fun s => decide (zu_fw n (zs_meet (decide (0 < sz)) (zl_ev C X sz) P (zs_up S w s) Q hide) It len 21 0 = -2)) (P w)) (zs_ph P S w 0)) w9 ||| 2 ^ w9)) (zw_or _ _) ?_
        refine lv_istore_n (lv' := [(3, .int (nI (zw (fun w => zh_oth (zw (fun s => decide (zu_fw n (zs_meet (decide (0 < sz)) (zl_ev C X sz) P (zs_up S w s) Q hide) It len 21 0 = -2)) (P w)) (zs_ph P S w 0)) w9 ||| 2 ^ w9))), (5, .int (nI (2 ^ (zs_ph P S w9 0)))), (0, .ref (a 0)), (1, .int (nI d)), (4, .int (nI w9))]) Z.1 Z.2.1 dX7_whose_69 rfl hl (by decide) rfl (fun ls hl => ?_)
        have hO9 : zh_oth (zw (fun s => decide (zu_fw n (zs_meet (decide (0 < sz)) (zl_ev C X sz) P (zs_up S w9 s) Q hide) It len 21 0 = -2)) (P w9)) (zs_ph P S w9 0) = true := decide_eq_true c60
        have e_2 : zw (fun w => zh_oth (zw (fun s => decide (zu_fw n (zs_meet (decide (0 < sz)) (zl_ev C X sz) P (zs_up S w s) Q hide) It len 21 0 = -2)) (P w)) (zs_ph P S w 0)) w9 ||| 2 ^ w9 = zw (fun w => zh_oth (zw (fun s => decide (zu_fw n (zs_meet (decide (0 < sz)) (zl_ev C X sz) P (zs_up S w s) Q hide) It len 21 0 = -2)) (P w)) (zs_ph P S w 0)) (w9 + 1) := by rw [zw_or1]; simp only [zw]; rw [if_pos hO9]
        have hl : lv_has ls 6 [(3, .int (nI (zw (fun w => zh_oth (zw (fun s => decide (zu_fw n (zs_meet (decide (0 < sz)) (zl_ev C X sz) P (zs_up S w s) Q hide) It len 21 0 = -2)) (P w)) (zs_ph P S w 0)) (w9 + 1)))), (5, .int (nI (2 ^ (zs_ph P S w9 0)))), (0, .ref (a 0)), (1, .int (nI d)), (4, .int (nI w9))] := by rw [← e_2]; exact hl
        refine lv_iinc (v := nI (w9 + 1)) (lv' := [(4, .int (nI (w9 + 1))), (3, .int (nI (zw (fun w => zh_oth (zw (fun s => decide (zu_fw n (zs_meet (decide (0 < sz)) (zl_ev C X sz) P (zs_up S w s) Q hide) It len 21 0 = -2)) (P w)) (zs_ph P S w 0)) (w9 + 1)))), (5, .int (nI (2 ^ (zs_ph P S w9 0)))), (0, .ref (a 0)), (1, .int (nI d))]) Z.1 Z.2.1 dX7_whose_70 hl (k := 4) rfl (zk_inc w9 1) (by decide) rfl (fun ls hl => ?_)
        refine lv_goto (tgt := 17) Z.1 Z.2.1 dX7_whose_73 (by decide) ?_
        exact ih17 (w9 + 1) T1_52 nm1_52 stk1_52 (by omega) (by omega) (by exact w_52) _ _ _ G (lv_sub hl [3, 4, 1, 0] rfl)
    exact L17 _ 0 T nm stk (Nat.lt_succ_self _) (by omega) (by exact hok) _ _ _ G (lv_sub hl [3, 4, 1, 0] rfl)
  have c7 : ¬ zh_rb x sort rel = 0 := c7
  refine lv_iload_n Z.1 Z.2.1 dX7_whose_10 rfl (lv_at hl 0 rfl) ?_
  exact zk_reti Z hR_ hlk hK hQ G (T, nm, stk) ⟨(by unfold zh_judge; rw [if_neg c7]), hok⟩ rfl dX7_whose_11

abbrev rm_X7_send : Room := { frames := 1, cells := 0, slots := 0, locals := 22 }
theorem dvX7_send : zk_dv yX7_send RX7 1 := by decide +kernel
set_option maxRecDepth 100000 in
set_option maxHeartbeats 4000000 in
theorem ct_X7_send (l : Launch) (D : va_G) (g : Nat → ClassId) (τ : Nat → Nat) (a : Nat → Nat) (pic : Bool) (storm : Nat) (chance : Int32) (n : Nat) (hide : Nat) (ver : Nat) (ew : Int32) (ek : Bool) (us : Nat) (ut : Nat) (uh : Nat) (ua : Nat) (ul : Nat) (nw : Nat) (m1 : Nat) (Sn : Nat → Nat) (Tg : Nat → Nat) (Hd : Nat → Int32) (Av : Nat → Int32) (pq : Int32) (hn : n ≤ 7) (hm1 : m1 ≤ 10) : zk_MI l D g τ yX7_send wsX7_send rm_X7_send [.ref (a 0), .int pq] [(a 0, .inr (7, [.ref (a 1), .ref (a 2), .ref (a 3), .ref (a 4), .ref (a 50), .ref (a 60), .ref (a 7), .ref (a 8), .int (zk_b pic), .int (nI storm), .int chance])), (a 2, .inr (5, [.ref (a 20), .ref (a 21), .ref (a 22), .int (nI n), .int (nI hide), .ref (a 1), .ref (a 23), .ref (a 24), .int (nI ver), .int ew, .int (zk_b ek)])), (a 50, .inr (1, [.int (nI nw), .int (nI m1), .ref us, .ref ut, .ref uh, .ref ua, .ref ul])), (us, .inl (g 0, 10, .inl (fun i => nI (Sn i)))), (ut, .inl (g 0, 10, .inl (fun i => nI (Tg i)))), (uh, .inl (g 0, 10, .inl Hd)), (ua, .inl (g 0, 10, .inl Av))] (fun (r : Int32) (_ : Unit) => r = zu_send n m1 pq) (fun (_ : Unit) => [(a 0, .inr (7, [.ref (a 1), .ref (a 2), .ref (a 3), .ref (a 4), .ref (a 50), .ref (a 60), .ref (a 7), .ref (a 8), .int (zk_b pic), .int (nI storm), .int chance])), (a 2, .inr (5, [.ref (a 20), .ref (a 21), .ref (a 22), .int (nI n), .int (nI hide), .ref (a 1), .ref (a 23), .ref (a 24), .int (nI ver), .int ew, .int (zk_b ek)])), (a 50, .inr (1, [.int (nI nw), .int (nI (if (zb_pair n pq && decide (m1 < 10)) = true then m1 + 1 else m1)), .ref us, .ref ut, .ref uh, .ref ua, .ref ul])), (us, .inl (g 0, 10, .inl (fun i => nI ((if (zb_pair n pq && decide (m1 < 10)) = true then zs_up Sn m1 (zu_p pq) else Sn) i)))), (ut, .inl (g 0, 10, .inl (fun i => nI ((if (zb_pair n pq && decide (m1 < 10)) = true then zs_up Tg m1 (zu_q pq) else Tg) i)))), (uh, .inl (g 0, 10, .inl (if (zb_pair n pq && decide (m1 < 10)) = true then upd Hd m1 (nI (zu_p pq)) else Hd))), (ua, .inl (g 0, 10, .inl (if (zb_pair n pq && decide (m1 < 10)) = true then upd Av m1 (-2) else Av)))]) := by
  refine zk_of (Qc := fun A => va_Qi (fun (r : Int32) (_ : Unit) => r = zu_send n m1 pq) (zk_B D g A (fun (_ : Unit) => [(a 0, .inr (7, [.ref (a 1), .ref (a 2), .ref (a 3), .ref (a 4), .ref (a 50), .ref (a 60), .ref (a 7), .ref (a 8), .int (zk_b pic), .int (nI storm), .int chance])), (a 2, .inr (5, [.ref (a 20), .ref (a 21), .ref (a 22), .int (nI n), .int (nI hide), .ref (a 1), .ref (a 23), .ref (a 24), .int (nI ver), .int ew, .int (zk_b ek)])), (a 50, .inr (1, [.int (nI nw), .int (nI (if (zb_pair n pq && decide (m1 < 10)) = true then m1 + 1 else m1)), .ref us, .ref ut, .ref uh, .ref ua, .ref ul])), (us, .inl (g 0, 10, .inl (fun i => nI ((if (zb_pair n pq && decide (m1 < 10)) = true then zs_up Sn m1 (zu_p pq) else Sn) i)))), (ut, .inl (g 0, 10, .inl (fun i => nI ((if (zb_pair n pq && decide (m1 < 10)) = true then zs_up Tg m1 (zu_q pq) else Tg) i)))), (uh, .inl (g 0, 10, .inl (if (zb_pair n pq && decide (m1 < 10)) = true then upd Hd m1 (nI (zu_p pq)) else Hd))), (ua, .inl (g 0, 10, .inl (if (zb_pair n pq && decide (m1 < 10)) = true then upd Av m1 (-2) else Av)))])) A) (cc := cX7_send) (maxL := 2) (ret := (some .int)) (own := RX7) (by decide) rfl rfl (Nat.le_of_ble_eq_true rfl) ?_
  intro pP eE sS mM args below meth cC aA ls qQ Z hR_ hlk hnm hK hT hA hQ G hl
  have hinX1 : ∀ w ∈ u_ws RX1 TX1 7, w ∈ wsX7_send := (fun _ h => List.mem_cons_of_mem _ (List.mem_append_left _ (List.mem_append_right _ h)))
  have hinX7 : ∀ w ∈ u_ws RX7 TX7 11, w ∈ wsX7_send := (fun _ h => List.mem_cons_of_mem _ (List.mem_append_left _ (List.mem_append_left _ (List.mem_append_right _ h))))
  refine lv_aload_n Z.1 Z.2.1 dX7_send_0 rfl (lv_at hl 0 rfl) ?_
  refine lv_iload_n Z.1 Z.2.1 dX7_send_1 rfl (lv_at hl 1 rfl) ?_
  refine zk_ci (WF := fun (_ : Unit) => [(a 0, .inr (7, [.ref (a 1), .ref (a 2), .ref (a 3), .ref (a 4), .ref (a 50), .ref (a 60), .ref (a 7), .ref (a 8), .int (zk_b pic), .int (nI storm), .int chance])), (a 2, .inr (5, [.ref (a 20), .ref (a 21), .ref (a 22), .int (nI n), .int (nI hide), .ref (a 1), .ref (a 23), .ref (a 24), .int (nI ver), .int ew, .int (zk_b ek)])), (a 50, .inr (1, [.int (nI nw), .int (nI m1), .ref us, .ref ut, .ref uh, .ref ua, .ref ul])), (us, .inl (g 0, 10, .inl (fun i => nI (Sn i)))), (ut, .inl (g 0, 10, .inl (fun i => nI (Tg i)))), (uh, .inl (g 0, 10, .inl Hd)), (ua, .inl (g 0, 10, .inl Av))]) (wr := [(a 50, .inr (1, [.int (nI nw), .int (nI m1), .ref us, .ref ut, .ref uh, .ref ua, .ref ul])), (us, .inl (g 0, 10, .inl (fun i => nI (Sn i)))), (ut, .inl (g 0, 10, .inl (fun i => nI (Tg i)))), (uh, .inl (g 0, 10, .inl Hd)), (ua, .inl (g 0, 10, .inl Av))]) ⟨rfl, rfl⟩ (zk_rv (As := [.int pq]) (rest := []) (q0 := 0) (ci := 7) Z ((ct_X7_isPair l D g τ a pic storm chance n hide ver ew ek pq (by exact hn)) sS.heap.size) hK hT hA G [0, 1] rfl (by decide) rfl rfl gX7_send_X7_isPair rfl dvX7_isPair ⟨by decide, by decide⟩ rfl hl.1 rfl (Nat.le_of_ble_eq_true rfl) dX7_send_2 ⟨Nat.zero_le _, Nat.zero_le _⟩) hA G [0, 1] [2, 3, 4, 5, 6] [5, 6, 0, 1, 2, 3, 4] rfl rfl (by decide) (by decide) (by decide) (fun _ => rfl) (fun r_2 _ H locs w_2 G => ?_)
  obtain rfl : r_2 = zk_b (zb_pair n pq) := w_2
  refine lv_if_ne (tgt := 10) Z.1 Z.2.1 dX7_send_5 (by decide) (fun c5 => ?_) (fun c5 => ?_)
  · have c5 : (zb_pair n pq) = true := zk_b1.mp c5
    have c5_0 := c5
    obtain ⟨j, hj, rfl, hj2⟩ := zb_pair_ex c5
    refine lv_aload_n Z.1 Z.2.1 dX7_send_10 rfl (lv_at hl 0 rfl) ?_
    refine zk_get (C := RX7) (T := TX7) (N := 11) (ci := 7) Z hK G hinX7 0 rfl rfl 4 (by decide) (List.mem_of_getElem? (i := 1) rfl) rfl (v := .ref (a 50)) rfl dX7_send_11 ?_
    refine zk_get (C := RX1) (T := TX1) (N := 7) (ci := 1) Z hK G hinX1 2 rfl rfl 1 (by decide) (List.mem_of_getElem? (i := 2) rfl) rfl (v := .int (nI m1)) rfl dX7_send_14 ?_
    refine lv_bipush (v := nI 10) Z.1 Z.2.1 dX7_send_17 (by decide +kernel) ?_
    refine lv_icmp_ge (tgt := 40) Z.1 Z.2.1 dX7_send_19 (by decide) (fun c19 => ?_) (fun c19 => ?_)
    · have c19 : 10 ≤ m1 := zk_le (by omega) (by omega) c19
      refine lv_bipush (v := (-3)) Z.1 Z.2.1 dX7_send_40 (by decide +kernel) ?_
      exact zk_reti Z hR_ hlk hK hQ G () (by unfold zu_send; rw [if_pos c5_0, if_neg (Nat.not_lt.mpr c19)]) (by rw [if_neg (by rw [decide_eq_false (Nat.not_lt.mpr c19), Bool.and_false]; decide), if_neg (by rw [decide_eq_false (Nat.not_lt.mpr c19), Bool.and_false]; decide), if_neg (by rw [decide_eq_false (Nat.not_lt.mpr c19), Bool.and_false]; decide), if_neg (by rw [decide_eq_false (Nat.not_lt.mpr c19), Bool.and_false]; decide), if_neg (by rw [decide_eq_false (Nat.not_lt.mpr c19), Bool.and_false]; decide)]) dX7_send_42
    have c19 : m1 < 10 := zk_nle (by omega) (by omega) c19
    refine lv_aload_n Z.1 Z.2.1 dX7_send_22 rfl (lv_at hl 0 rfl) ?_
    refine zk_get (C := RX7) (T := TX7) (N := 11) (ci := 7) Z hK G hinX7 0 rfl rfl 4 (by decide) (List.mem_of_getElem? (i := 1) rfl) rfl (v := .ref (a 50)) rfl dX7_send_23 ?_
    refine lv_iload_n Z.1 Z.2.1 dX7_send_26 rfl (lv_at hl 1 rfl) ?_
    refine lv_bipush (v := nI 10) Z.1 Z.2.1 dX7_send_27 (by decide +kernel) ?_
    refine zk_idiv Z dX7_send_29 (nI_ne0 (by omega) (by omega)) (z := nI (j / 10)) (pk_div (by omega) (by omega) (by omega)) ?_
    refine lv_iload_n Z.1 Z.2.1 dX7_send_30 rfl (lv_at hl 1 rfl) ?_
    refine lv_bipush (v := nI 10) Z.1 Z.2.1 dX7_send_31 (by decide +kernel) ?_
    refine zk_irem Z dX7_send_33 (nI_ne0 (by omega) (by omega)) (z := nI (j % 10)) (pk_rem (by omega) (by omega) (by omega)) ?_
    refine zk_ci (WF := fun (_ : Unit) => [(a 0, .inr (7, [.ref (a 1), .ref (a 2), .ref (a 3), .ref (a 4), .ref (a 50), .ref (a 60), .ref (a 7), .ref (a 8), .int (zk_b pic), .int (nI storm), .int chance])), (a 2, .inr (5, [.ref (a 20), .ref (a 21), .ref (a 22), .int (nI n), .int (nI hide), .ref (a 1), .ref (a 23), .ref (a 24), .int (nI ver), .int ew, .int (zk_b ek)])), (a 50, .inr (1, [.int (nI nw), .int (nI (m1 + 1)), .ref us, .ref ut, .ref uh, .ref ua, .ref ul])), (us, .inl (g 0, 10, .inl (fun i => nI (zs_up Sn m1 (j / 10) i)))), (ut, .inl (g 0, 10, .inl (fun i => nI (zs_up Tg m1 (j % 10) i)))), (uh, .inl (g 0, 10, .inl (upd Hd m1 (nI (j / 10))))), (ua, .inl (g 0, 10, .inl (upd Av m1 (-2))))]) (wr := [(a 0, .inr (7, [.ref (a 1), .ref (a 2), .ref (a 3), .ref (a 4), .ref (a 50), .ref (a 60), .ref (a 7), .ref (a 8), .int (zk_b pic), .int (nI storm), .int chance])), (a 2, .inr (5, [.ref (a 20), .ref (a 21), .ref (a 22), .int (nI n), .int (nI hide), .ref (a 1), .ref (a 23), .ref (a 24), .int (nI ver), .int ew, .int (zk_b ek)]))]) ⟨rfl, rfl⟩ (zk_rv (As := [.int (nI (j / 10)), .int (nI (j % 10))]) (rest := []) (q0 := 2) (ci := 1) Z ((ct_X1_add l D g τ (a 50) us ut uh ua ul nw m1 Sn Tg Hd Av (j / 10) (j % 10) (by omega)) H.size) hK hT hA G [2, 3, 4, 5, 6] rfl (by decide) rfl rfl gX7_send_X1_add rfl dvX1_add ⟨by decide, by decide⟩ rfl hl.1 rfl (Nat.le_of_ble_eq_true rfl) dX7_send_34 ⟨Nat.zero_le _, Nat.zero_le _⟩) hA G [2, 3, 4, 5, 6] [0, 1] [0, 1, 2, 3, 4, 5, 6] rfl rfl (by decide) (by decide) (by decide) (fun _ => rfl) (fun r_34 _ H locs w_34 G => ?_)
    obtain rfl : r_34 = nI m1 := w_34
    refine lv_goto (tgt := 42) Z.1 Z.2.1 dX7_send_37 (by decide) ?_
    exact zk_reti Z hR_ hlk hK hQ G () (by unfold zu_send; rw [if_pos c5_0, if_pos c19]) (by rw [if_pos (show (zb_pair n (nI j) && decide (m1 < 10)) = true by rw [c5_0, decide_eq_true c19]; rfl), if_pos (show (zb_pair n (nI j) && decide (m1 < 10)) = true by rw [c5_0, decide_eq_true c19]; rfl), if_pos (show (zb_pair n (nI j) && decide (m1 < 10)) = true by rw [c5_0, decide_eq_true c19]; rfl), if_pos (show (zb_pair n (nI j) && decide (m1 < 10)) = true by rw [c5_0, decide_eq_true c19]; rfl), if_pos (show (zb_pair n (nI j) && decide (m1 < 10)) = true by rw [c5_0, decide_eq_true c19]; rfl), zu_pn hj, zu_qn hj]) dX7_send_42
  have c5 : (zb_pair n pq) = false := zk_b0.mp c5
  refine lv_iconst (v := (-1)) Z.1 Z.2.1 dX7_send_8 (by decide +kernel) ?_
  exact zk_reti Z hR_ hlk hK hQ G () (by unfold zu_send; rw [c5]; rfl) (by rw [if_neg (show ¬ (zb_pair n pq && decide (m1 < 10)) = true by rw [c5]; simp), if_neg (show ¬ (zb_pair n pq && decide (m1 < 10)) = true by rw [c5]; simp), if_neg (show ¬ (zb_pair n pq && decide (m1 < 10)) = true by rw [c5]; simp), if_neg (show ¬ (zb_pair n pq && decide (m1 < 10)) = true by rw [c5]; simp), if_neg (show ¬ (zb_pair n pq && decide (m1 < 10)) = true by rw [c5]; simp)]) dX7_send_9

abbrev rm_X7_back : Room := { frames := 2, cells := 0, slots := 0, locals := 81 }
theorem dvX7_back : zk_dv yX7_back RX7 0 := by decide +kernel
set_option maxRecDepth 100000 in
set_option maxHeartbeats 4000000 in
theorem ct_X7_back (l : Launch) (D : va_G) (g : Nat → ClassId) (τ : Nat → Nat) (a : Nat → Nat) (pic : Bool) (storm : Nat) (chance : Int32) (us : Nat) (ut : Nat) (uh : Nat) (ua : Nat) (ul : Nat) (vs : Nat) (vt : Nat) (vh : Nat) (va : Nat) (vl : Nat) (nw : Nat) (m1 : Nat) (Sn : Nat → Nat) (Tg : Nat → Nat) (Hd : Nat → Int32) (Av : Nat → Int32) (Ld : Nat → Nat) (nw2 : Nat) (m2 : Nat) (Sn2 : Nat → Nat) (Tg2 : Nat → Nat) (Hd2 : Nat → Int32) (Av2 : Nat → Int32) (Ld2 : Nat → Nat)  : zk_MI l D g τ yX7_back wsX7_back rm_X7_back [.ref (a 0)] [(a 0, .inr (7, [.ref (a 1), .ref (a 2), .ref (a 3), .ref (a 4), .ref (a 50), .ref (a 60), .ref (a 7), .ref (a 8), .int (zk_b pic), .int (nI storm), .int chance])), (a 50, .inr (1, [.int (nI nw), .int (nI m1), .ref us, .ref ut, .ref uh, .ref ua, .ref ul])), (us, .inl (g 0, 10, .inl (fun i => nI (Sn i)))), (ut, .inl (g 0, 10, .inl (fun i => nI (Tg i)))), (uh, .inl (g 0, 10, .inl Hd)), (ua, .inl (g 0, 10, .inl Av)), (ul, .inl (g 0, 6, .inl (fun i => nI (Ld i)))), (a 60, .inr (1, [.int (nI nw2), .int (nI m2), .ref vs, .ref vt, .ref vh, .ref va, .ref vl])), (vs, .inl (g 0, 10, .inl (fun i => nI (Sn2 i)))), (vt, .inl (g 0, 10, .inl (fun i => nI (Tg2 i)))), (vh, .inl (g 0, 10, .inl Hd2)), (va, .inl (g 0, 10, .inl Av2)), (vl, .inl (g 0, 6, .inl (fun i => nI (Ld2 i))))] (fun (r : Int32) (_ : Unit) => r = if pic = true then nI nw2 else (-5)) (fun (_ : Unit) => [(a 0, .inr (7, [.ref (a 1), .ref (a 2), .ref (a 3), .ref (a 4), .ref (a 50), .ref (a 60), .ref (a 7), .ref (a 8), .int (zk_b pic), .int (nI storm), .int chance])), (a 50, .inr (1, [.int (nI (if pic = true then nw2 else nw)), .int (nI (if pic = true then m2 else m1)), .ref us, .ref ut, .ref uh, .ref ua, .ref ul])), (us, .inl (g 0, 10, .inl (fun i => nI ((if pic = true then (zs_fill Sn2 Sn 10) else Sn) i)))), (ut, .inl (g 0, 10, .inl (fun i => nI ((if pic = true then (zs_fill Tg2 Tg 10) else Tg) i)))), (uh, .inl (g 0, 10, .inl (if pic = true then (zs_fill Hd2 Hd 10) else Hd))), (ua, .inl (g 0, 10, .inl (if pic = true then (zs_fill Av2 Av 10) else Av))), (ul, .inl (g 0, 6, .inl (fun i => nI ((if pic = true then (zs_fill Ld2 Ld 6) else Ld) i)))), (a 60, .inr (1, [.int (nI nw2), .int (nI m2), .ref vs, .ref vt, .ref vh, .ref va, .ref vl])), (vs, .inl (g 0, 10, .inl (fun i => nI (Sn2 i)))), (vt, .inl (g 0, 10, .inl (fun i => nI (Tg2 i)))), (vh, .inl (g 0, 10, .inl Hd2)), (va, .inl (g 0, 10, .inl Av2)), (vl, .inl (g 0, 6, .inl (fun i => nI (Ld2 i))))]) := by
  refine zk_of (Qc := fun A => va_Qi (fun (r : Int32) (_ : Unit) => r = if pic = true then nI nw2 else (-5)) (zk_B D g A (fun (_ : Unit) => [(a 0, .inr (7, [.ref (a 1), .ref (a 2), .ref (a 3), .ref (a 4), .ref (a 50), .ref (a 60), .ref (a 7), .ref (a 8), .int (zk_b pic), .int (nI storm), .int chance])), (a 50, .inr (1, [.int (nI (if pic = true then nw2 else nw)), .int (nI (if pic = true then m2 else m1)), .ref us, .ref ut, .ref uh, .ref ua, .ref ul])), (us, .inl (g 0, 10, .inl (fun i => nI ((if pic = true then (zs_fill Sn2 Sn 10) else Sn) i)))), (ut, .inl (g 0, 10, .inl (fun i => nI ((if pic = true then (zs_fill Tg2 Tg 10) else Tg) i)))), (uh, .inl (g 0, 10, .inl (if pic = true then (zs_fill Hd2 Hd 10) else Hd))), (ua, .inl (g 0, 10, .inl (if pic = true then (zs_fill Av2 Av 10) else Av))), (ul, .inl (g 0, 6, .inl (fun i => nI ((if pic = true then (zs_fill Ld2 Ld 6) else Ld) i)))), (a 60, .inr (1, [.int (nI nw2), .int (nI m2), .ref vs, .ref vt, .ref vh, .ref va, .ref vl])), (vs, .inl (g 0, 10, .inl (fun i => nI (Sn2 i)))), (vt, .inl (g 0, 10, .inl (fun i => nI (Tg2 i)))), (vh, .inl (g 0, 10, .inl Hd2)), (va, .inl (g 0, 10, .inl Av2)), (vl, .inl (g 0, 6, .inl (fun i => nI (Ld2 i))))])) A) (cc := cX7_back) (maxL := 1) (ret := (some .int)) (own := RX7) (by decide) rfl rfl (Nat.le_of_ble_eq_true rfl) ?_
  intro pP eE sS mM args below meth cC aA ls qQ Z hR_ hlk hnm hK hT hA hQ G hl
  have hinX1 : ∀ w ∈ u_ws RX1 TX1 7, w ∈ wsX7_back := (fun _ h => List.mem_cons_of_mem _ (List.mem_append_right _ h))
  have hinX7 : ∀ w ∈ u_ws RX7 TX7 11, w ∈ wsX7_back := (fun _ h => List.mem_cons_of_mem _ (List.mem_append_left _ (List.mem_append_right _ h)))
  refine lv_aload_n Z.1 Z.2.1 dX7_back_0 rfl (lv_at hl 0 rfl) ?_
  refine zk_get (C := RX7) (T := TX7) (N := 11) (ci := 7) Z hK G hinX7 0 rfl rfl 8 (by decide) (List.mem_of_getElem? (i := 1) rfl) rfl (v := .int (zk_b pic)) rfl dX7_back_1 ?_
  refine lv_if_ne (tgt := 10) Z.1 Z.2.1 dX7_back_4 (by decide) (fun c4 => ?_) (fun c4 => ?_)
  · have c4 : pic = true := zk_b1.mp c4
    refine lv_aload_n Z.1 Z.2.1 dX7_back_10 rfl (lv_at hl 0 rfl) ?_
    refine zk_get (C := RX7) (T := TX7) (N := 11) (ci := 7) Z hK G hinX7 0 rfl rfl 4 (by decide) (List.mem_of_getElem? (i := 2) rfl) rfl (v := .ref (a 50)) rfl dX7_back_11 ?_
    refine lv_aload_n Z.1 Z.2.1 dX7_back_14 rfl (lv_at hl 0 rfl) ?_
    refine zk_get (C := RX7) (T := TX7) (N := 11) (ci := 7) Z hK G hinX7 0 rfl rfl 5 (by decide) (List.mem_of_getElem? (i := 3) rfl) rfl (v := .ref (a 60)) rfl dX7_back_15 ?_
    refine zk_cv (WF := fun (_ : Unit) => [(a 0, .inr (7, [.ref (a 1), .ref (a 2), .ref (a 3), .ref (a 4), .ref (a 50), .ref (a 60), .ref (a 7), .ref (a 8), .int (zk_b pic), .int (nI storm), .int chance])), (a 50, .inr (1, [.int (nI nw2), .int (nI m2), .ref us, .ref ut, .ref uh, .ref ua, .ref ul])), (us, .inl (g 0, 10, .inl (fun i => nI (zs_fill Sn2 Sn 10 i)))), (ut, .inl (g 0, 10, .inl (fun i => nI (zs_fill Tg2 Tg 10 i)))), (uh, .inl (g 0, 10, .inl (zs_fill Hd2 Hd 10))), (ua, .inl (g 0, 10, .inl (zs_fill Av2 Av 10))), (ul, .inl (g 0, 6, .inl (fun i => nI (zs_fill Ld2 Ld 6 i)))), (a 60, .inr (1, [.int (nI nw2), .int (nI m2), .ref vs, .ref vt, .ref vh, .ref va, .ref vl])), (vs, .inl (g 0, 10, .inl (fun i => nI (Sn2 i)))), (vt, .inl (g 0, 10, .inl (fun i => nI (Tg2 i)))), (vh, .inl (g 0, 10, .inl Hd2)), (va, .inl (g 0, 10, .inl Av2)), (vl, .inl (g 0, 6, .inl (fun i => nI (Ld2 i))))]) (wr := [(a 0, .inr (7, [.ref (a 1), .ref (a 2), .ref (a 3), .ref (a 4), .ref (a 50), .ref (a 60), .ref (a 7), .ref (a 8), .int (zk_b pic), .int (nI storm), .int chance]))]) ⟨rfl, rfl⟩ (zk_rv (As := [.ref (a 60)]) (rest := []) (q0 := 1) (ci := 1) Z ((ct_X1_copy l D g τ (a 50) us ut uh ua ul (a 60) vs vt vh va vl nw m1 Sn Tg Hd Av Ld nw2 m2 Sn2 Tg2 Hd2 Av2 Ld2 ) sS.heap.size) hK hT hA G [1, 2, 3, 4, 5, 6, 7, 8, 9, 10, 11, 12] rfl (by decide) rfl rfl gX7_back_X1_copy rfl dvX1_copy ⟨by decide, by decide⟩ rfl hl.1 rfl (Nat.le_of_ble_eq_true rfl) dX7_back_18 ⟨Nat.zero_le _, Nat.zero_le _⟩) hA G [1, 2, 3, 4, 5, 6, 7, 8, 9, 10, 11, 12] [0] [0, 1, 2, 3, 4, 5, 6, 7, 8, 9, 10, 11, 12] rfl rfl (by decide) (by decide) (by decide) (fun _ => rfl) (fun _ H locs w_18 G => ?_)
    refine lv_aload_n Z.1 Z.2.1 dX7_back_21 rfl (lv_at hl 0 rfl) ?_
    refine zk_get (C := RX7) (T := TX7) (N := 11) (ci := 7) Z hK G hinX7 0 rfl rfl 4 (by decide) (List.mem_of_getElem? (i := 2) rfl) rfl (v := .ref (a 50)) rfl dX7_back_22 ?_
    refine zk_get (C := RX1) (T := TX1) (N := 7) (ci := 1) Z hK G hinX1 1 rfl rfl 0 (by decide) (List.mem_of_getElem? (i := 4) rfl) rfl (v := .int (nI nw2)) rfl dX7_back_25 ?_
    exact zk_reti Z hR_ hlk hK hQ G () (by rw [if_pos c4]) (by simp only [if_pos c4]) dX7_back_28
  have c4 : pic = false := zk_b0.mp c4
  refine lv_bipush (v := (-5)) Z.1 Z.2.1 dX7_back_7 (by decide +kernel) ?_
  exact zk_reti Z hR_ hlk hK hQ G () (by rw [c4]; rfl) (by simp only [c4]; rfl) dX7_back_9

abbrev rm_X7_trace : Room := { frames := 0, cells := 0, slots := 0, locals := 0 }
theorem dvX7_trace : zk_dv yX7_trace RX7 1 := by decide +kernel
set_option maxRecDepth 100000 in
set_option maxHeartbeats 4000000 in
theorem ct_X7_trace (l : Launch) (D : va_G) (g : Nat → ClassId) (τ : Nat → Nat) (a : Nat → Nat) (pic : Bool) (storm : Nat) (chance : Int32) (zr : Nat) (rn : Nat) (nb : Int32) (TR : Nat → Nat) (KD : Nat → Nat) (y : Int32) (hrn : rn < 2 ^ 30) : zk_MI l D g τ yX7_trace wsX7_trace rm_X7_trace [.ref (a 0), .int y] [(a 0, .inr (7, [.ref (a 1), .ref (a 2), .ref (a 3), .ref (a 4), .ref (a 50), .ref (a 60), .ref (a 7), .ref (a 8), .int (zk_b pic), .int (nI storm), .int chance])), (a 7, .inr (3, [.int (nI zr), .int (nI rn), .ref (a 70), .ref (a 71), .int nb])), (a 70, .inl (g 0, 24, .inl (fun i => nI (TR i))))] (fun (r : Int32) (_ : Unit) => r = zr_trace rn TR y) (fun (_ : Unit) => [(a 0, .inr (7, [.ref (a 1), .ref (a 2), .ref (a 3), .ref (a 4), .ref (a 50), .ref (a 60), .ref (a 7), .ref (a 8), .int (zk_b pic), .int (nI storm), .int chance])), (a 7, .inr (3, [.int (nI zr), .int (nI rn), .ref (a 70), .ref (a 71), .int nb])), (a 70, .inl (g 0, 24, .inl (fun i => nI (TR i))))]) := by
  refine zk_of (Qc := fun A => va_Qi (fun (r : Int32) (_ : Unit) => r = zr_trace rn TR y) (zk_B D g A (fun (_ : Unit) => [(a 0, .inr (7, [.ref (a 1), .ref (a 2), .ref (a 3), .ref (a 4), .ref (a 50), .ref (a 60), .ref (a 7), .ref (a 8), .int (zk_b pic), .int (nI storm), .int chance])), (a 7, .inr (3, [.int (nI zr), .int (nI rn), .ref (a 70), .ref (a 71), .int nb])), (a 70, .inl (g 0, 24, .inl (fun i => nI (TR i))))])) A) (cc := cX7_trace) (maxL := 2) (ret := (some .int)) (own := RX7) (by decide) rfl rfl (Nat.le_of_ble_eq_true rfl) ?_
  intro pP eE sS mM args below meth cC aA ls qQ Z hR_ hlk hnm hK hT hA hQ G hl
  have hinX3 : ∀ w ∈ u_ws RX3 TX3 5, w ∈ wsX7_trace := (fun _ h => List.mem_cons_of_mem _ (List.mem_append_right _ h))
  have hinX7 : ∀ w ∈ u_ws RX7 TX7 11, w ∈ wsX7_trace := (fun _ h => List.mem_cons_of_mem _ (List.mem_append_left _ (List.mem_append_right _ h)))
  refine lv_iload_n Z.1 Z.2.1 dX7_trace_0 rfl (lv_at hl 1 rfl) ?_
  refine lv_if_lt (tgt := 33) Z.1 Z.2.1 dX7_trace_1 (by decide) (fun c1 => ?_) (fun c1 => ?_)
  · have c1 : y < 0 := c1
    refine lv_iconst (v := (-1)) Z.1 Z.2.1 dX7_trace_33 (by decide +kernel) ?_
    exact zk_reti Z hR_ hlk hK hQ G () (by unfold zr_trace; rw [zb_w_neg c1]; rfl) rfl dX7_trace_34
  have c1 : ¬ y < 0 := c1
  obtain ⟨j, hj, rfl⟩ := nI_of c1
  refine lv_iload_n Z.1 Z.2.1 dX7_trace_4 rfl (lv_at hl 1 rfl) ?_
  refine lv_bipush (v := nI 24) Z.1 Z.2.1 dX7_trace_5 (by decide +kernel) ?_
  refine lv_icmp_ge (tgt := 33) Z.1 Z.2.1 dX7_trace_7 (by decide) (fun c7 => ?_) (fun c7 => ?_)
  · have c7 : 24 ≤ j := zk_le (by omega) (by omega) c7
    refine lv_iconst (v := (-1)) Z.1 Z.2.1 dX7_trace_33 (by decide +kernel) ?_
    exact zk_reti Z hR_ hlk hK hQ G () (by unfold zr_trace; rw [zb_w_n hj, decide_eq_false (Nat.not_lt.mpr c7)]; rfl) rfl dX7_trace_34
  have c7 : j < 24 := zk_nle (by omega) (by omega) c7
  refine lv_iload_n Z.1 Z.2.1 dX7_trace_10 rfl (lv_at hl 1 rfl) ?_
  refine lv_aload_n Z.1 Z.2.1 dX7_trace_11 rfl (lv_at hl 0 rfl) ?_
  refine zk_get (C := RX7) (T := TX7) (N := 11) (ci := 7) Z hK G hinX7 0 rfl rfl 6 (by decide) (List.mem_of_getElem? (i := 1) rfl) rfl (v := .ref (a 7)) rfl dX7_trace_12 ?_
  refine zk_get (C := RX3) (T := TX3) (N := 5) (ci := 3) Z hK G hinX3 1 rfl rfl 1 (by decide) (List.mem_of_getElem? (i := 2) rfl) rfl (v := .int (nI rn)) rfl dX7_trace_15 ?_
  refine lv_icmp_ge (tgt := 33) Z.1 Z.2.1 dX7_trace_18 (by decide) (fun c18 => ?_) (fun c18 => ?_)
  · have c18 : rn ≤ j := zk_le (by omega) (by omega) c18
    refine lv_iconst (v := (-1)) Z.1 Z.2.1 dX7_trace_33 (by decide +kernel) ?_
    exact zk_reti Z hR_ hlk hK hQ G () (by unfold zr_trace; rw [zb_w_n hj, zb_w_n hj, decide_eq_false (Nat.not_lt.mpr c18), Bool.and_false]; rfl) rfl dX7_trace_34
  have c18 : j < rn := zk_nle (by omega) (by omega) c18
  refine lv_aload_n Z.1 Z.2.1 dX7_trace_21 rfl (lv_at hl 0 rfl) ?_
  refine zk_get (C := RX7) (T := TX7) (N := 11) (ci := 7) Z hK G hinX7 0 rfl rfl 6 (by decide) (List.mem_of_getElem? (i := 1) rfl) rfl (v := .ref (a 7)) rfl dX7_trace_22 ?_
  refine zk_get (C := RX3) (T := TX3) (N := 5) (ci := 3) Z hK G hinX3 1 rfl rfl 2 (by decide) (List.mem_of_getElem? (i := 3) rfl) rfl (v := .ref (a 70)) rfl dX7_trace_25 ?_
  refine lv_iload_n Z.1 Z.2.1 dX7_trace_28 rfl (lv_at hl 1 rfl) ?_
  refine zk_iald Z hK G 2 rfl (k := j) (by omega) (by decide) (v := nI (TR j)) rfl dX7_trace_29 ?_
  refine lv_goto (tgt := 34) Z.1 Z.2.1 dX7_trace_30 (by decide) ?_
  exact zk_reti Z hR_ hlk hK hQ G () (by unfold zr_trace; rw [zb_w_n hj, zb_w_n hj, decide_eq_true c7, decide_eq_true c18, zb_nat hj]; rfl) rfl dX7_trace_34

abbrev rm_X7_keep : Room := { frames := 1, cells := 0, slots := 0, locals := 21 }
theorem dvX7_keep : zk_dv yX7_keep RX7 2 := by decide +kernel
set_option maxRecDepth 100000 in
set_option maxHeartbeats 4000000 in
theorem ct_X7_keep (l : Launch) (D : va_G) (g : Nat → ClassId) (τ : Nat → Nat) (a : Nat → Nat) (pic : Bool) (storm : Nat) (chance : Int32) (zr : Nat) (rn : Nat) (nb : Int32) (sf : Nat → Option Nat) (so : Nat) (si : Nat) (sort : Int32) (len : Nat) (rel : Int32) (x : Int32) (y : Int32) (hz : zr ≤ 50) (hsf : zb_w 6 x = true → sf (x.toInt.toNat) = some so) : zk_MI l D g τ yX7_keep wsX7_keep rm_X7_keep [.ref (a 0), .int x, .int y] [(a 0, .inr (7, [.ref (a 1), .ref (a 2), .ref (a 3), .ref (a 4), .ref (a 50), .ref (a 60), .ref (a 7), .ref (a 8), .int (zk_b pic), .int (nI storm), .int chance])), (a 7, .inr (3, [.int (nI zr), .int (nI rn), .ref (a 70), .ref (a 71), .int nb])), (a 8, .inl (g 4, 6, .inr (.inr (.inr (.inr sf))))), (so, .inr (4, [.ref si, .int sort, .int (nI len), .int rel]))] (fun (r : Int32) (_ : Unit) => r = if zh_keep zr x y = true then 1 else (-1)) (fun (_ : Unit) => [(a 0, .inr (7, [.ref (a 1), .ref (a 2), .ref (a 3), .ref (a 4), .ref (a 50), .ref (a 60), .ref (a 7), .ref (a 8), .int (zk_b pic), .int (nI storm), .int chance])), (a 7, .inr (3, [.int (nI zr), .int (nI rn), .ref (a 70), .ref (a 71), .int nb])), (a 8, .inl (g 4, 6, .inr (.inr (.inr (.inr sf))))), (so, .inr (4, [.ref si, .int ((if zh_keep zr x y = true then (-1) else sort)), .int (nI (if zh_keep zr x y = true then 0 else len)), .int ((if zh_keep zr x y = true then y else rel))]))]) := by
  refine zk_of (Qc := fun A => va_Qi (fun (r : Int32) (_ : Unit) => r = if zh_keep zr x y = true then 1 else (-1)) (zk_B D g A (fun (_ : Unit) => [(a 0, .inr (7, [.ref (a 1), .ref (a 2), .ref (a 3), .ref (a 4), .ref (a 50), .ref (a 60), .ref (a 7), .ref (a 8), .int (zk_b pic), .int (nI storm), .int chance])), (a 7, .inr (3, [.int (nI zr), .int (nI rn), .ref (a 70), .ref (a 71), .int nb])), (a 8, .inl (g 4, 6, .inr (.inr (.inr (.inr sf))))), (so, .inr (4, [.ref si, .int ((if zh_keep zr x y = true then (-1) else sort)), .int (nI (if zh_keep zr x y = true then 0 else len)), .int ((if zh_keep zr x y = true then y else rel))]))])) A) (cc := cX7_keep) (maxL := 3) (ret := (some .int)) (own := RX7) (by decide) rfl rfl (Nat.le_of_ble_eq_true rfl) ?_
  intro pP eE sS mM args below meth cC aA ls qQ Z hR_ hlk hnm hK hT hA hQ G hl
  have hinX3 : ∀ w ∈ u_ws RX3 TX3 5, w ∈ wsX7_keep := (fun _ h => List.mem_cons_of_mem _ (List.mem_append_left _ (List.mem_append_right _ h)))
  have hinX7 : ∀ w ∈ u_ws RX7 TX7 11, w ∈ wsX7_keep := (fun _ h => List.mem_cons_of_mem _ (List.mem_append_left _ (List.mem_append_left _ (List.mem_append_right _ h))))
  refine lv_iload_n Z.1 Z.2.1 dX7_keep_0 rfl (lv_at hl 1 rfl) ?_
  refine zk_ci (WF := fun (_ : Unit) => [(a 0, .inr (7, [.ref (a 1), .ref (a 2), .ref (a 3), .ref (a 4), .ref (a 50), .ref (a 60), .ref (a 7), .ref (a 8), .int (zk_b pic), .int (nI storm), .int chance])), (a 7, .inr (3, [.int (nI zr), .int (nI rn), .ref (a 70), .ref (a 71), .int nb])), (a 8, .inl (g 4, 6, .inr (.inr (.inr (.inr sf))))), (so, .inr (4, [.ref si, .int sort, .int (nI len), .int rel]))]) (wr := [(a 0, .inr (7, [.ref (a 1), .ref (a 2), .ref (a 3), .ref (a 4), .ref (a 50), .ref (a 60), .ref (a 7), .ref (a 8), .int (zk_b pic), .int (nI storm), .int chance])), (a 7, .inr (3, [.int (nI zr), .int (nI rn), .ref (a 70), .ref (a 71), .int nb])), (a 8, .inl (g 4, 6, .inr (.inr (.inr (.inr sf))))), (so, .inr (4, [.ref si, .int sort, .int (nI len), .int rel]))]) ⟨rfl, rfl⟩ (zk_rs (As := [.int x]) (rest := []) Z ((ct_X7_isShelf l D g τ x ) sS.heap.size) hK hT hA G [] rfl (by decide) gX7_keep_X7_isShelf rfl dvX7_isShelf ⟨by decide, by decide⟩ rfl hl.1 rfl (Nat.le_of_ble_eq_true rfl) dX7_keep_1 ⟨Nat.zero_le _, Nat.zero_le _⟩) hA G [] [0, 1, 2, 3] [0, 1, 2, 3] rfl rfl (by decide) (by decide) (by decide) (fun _ => rfl) (fun r_1 _ H locs w_1 G => ?_)
  obtain rfl : r_1 = zk_b (zb_w 6 x) := w_1
  refine lv_if_eq (tgt := 23) Z.1 Z.2.1 dX7_keep_4 (by decide) (fun c4 => ?_) (fun c4 => ?_)
  · have c4 : (zb_w 6 x) = false := zk_b0.mp c4
    refine lv_iconst (v := (-1)) Z.1 Z.2.1 dX7_keep_23 (by decide +kernel) ?_
    have hk9 : ¬ zh_keep zr x y = true := by unfold zh_keep; rw [c4]; simp
    exact zk_reti Z hR_ hlk hK hQ G () (by rw [if_neg hk9]) (by rw [if_neg hk9, if_neg hk9, if_neg hk9]) dX7_keep_24
  have c4 : (zb_w 6 x) = true := zk_b1.mp c4
  have c4_0 := c4
  obtain ⟨d, hd, rfl, hd2⟩ := zb_w_ex c4
  have hsd : sf d = some so := by have h9 := hsf c4_0; rw [zb_nat hd] at h9; exact h9
  refine lv_iload_n Z.1 Z.2.1 dX7_keep_7 rfl (lv_at hl 2 rfl) ?_
  refine lv_iconst (v := (-1)) Z.1 Z.2.1 dX7_keep_8 (by decide +kernel) ?_
  refine lv_icmp_lt (tgt := 23) Z.1 Z.2.1 dX7_keep_9 (by decide) (fun c9 => ?_) (fun c9 => ?_)
  · have c9 : y < (-1) := c9
    refine lv_iconst (v := (-1)) Z.1 Z.2.1 dX7_keep_23 (by decide +kernel) ?_
    have hk9 : ¬ zh_keep zr (nI d) y = true := by unfold zh_keep; rw [decide_eq_false (fun q9 : ¬ y < -1 => q9 c9)]; simp
    exact zk_reti Z hR_ hlk hK hQ G () (by rw [if_neg hk9]) (by rw [if_neg hk9, if_neg hk9, if_neg hk9]) dX7_keep_24
  have c9 : ¬ y < (-1) := c9
  refine lv_iload_n Z.1 Z.2.1 dX7_keep_12 rfl (lv_at hl 2 rfl) ?_
  refine lv_aload_n Z.1 Z.2.1 dX7_keep_13 rfl (lv_at hl 0 rfl) ?_
  refine zk_get (C := RX7) (T := TX7) (N := 11) (ci := 7) Z hK G hinX7 0 rfl rfl 6 (by decide) (List.mem_of_getElem? (i := 1) rfl) rfl (v := .ref (a 7)) rfl dX7_keep_14 ?_
  refine zk_get (C := RX3) (T := TX3) (N := 5) (ci := 3) Z hK G hinX3 1 rfl rfl 0 (by decide) (List.mem_of_getElem? (i := 2) rfl) rfl (v := .int (nI zr)) rfl dX7_keep_17 ?_
  refine lv_icmp_lt (tgt := 25) Z.1 Z.2.1 dX7_keep_20 (by decide) (fun c20 => ?_) (fun c20 => ?_)
  · have c20 : y < nI zr := c20
    refine lv_aload_n Z.1 Z.2.1 dX7_keep_25 rfl (lv_at hl 0 rfl) ?_
    refine zk_get (C := RX7) (T := TX7) (N := 11) (ci := 7) Z hK G hinX7 0 rfl rfl 7 (by decide) (List.mem_of_getElem? (i := 3) rfl) rfl (v := .ref (a 8)) rfl dX7_keep_26 ?_
    refine lv_iload_n Z.1 Z.2.1 dX7_keep_29 rfl (lv_at hl 1 rfl) ?_
    refine zk_qald Z hK G 2 rfl (k := d) (by omega) (by decide) (v := so) hsd dX7_keep_30 ?_
    refine lv_iload_n Z.1 Z.2.1 dX7_keep_31 rfl (lv_at hl 2 rfl) ?_
    refine zk_cv (WF := fun (_ : Unit) => [(a 0, .inr (7, [.ref (a 1), .ref (a 2), .ref (a 3), .ref (a 4), .ref (a 50), .ref (a 60), .ref (a 7), .ref (a 8), .int (zk_b pic), .int (nI storm), .int chance])), (a 7, .inr (3, [.int (nI zr), .int (nI rn), .ref (a 70), .ref (a 71), .int nb])), (a 8, .inl (g 4, 6, .inr (.inr (.inr (.inr sf))))), (so, .inr (4, [.ref si, .int (-1), .int (nI 0), .int y]))]) (wr := [(a 0, .inr (7, [.ref (a 1), .ref (a 2), .ref (a 3), .ref (a 4), .ref (a 50), .ref (a 60), .ref (a 7), .ref (a 8), .int (zk_b pic), .int (nI storm), .int chance])), (a 7, .inr (3, [.int (nI zr), .int (nI rn), .ref (a 70), .ref (a 71), .int nb])), (a 8, .inl (g 4, 6, .inr (.inr (.inr (.inr sf)))))]) ⟨rfl, rfl⟩ (zk_rv (As := [.int y]) (rest := []) (q0 := 3) (ci := 4) Z ((ct_X4_holdRelay l D g τ so si sort len rel y ) H.size) hK hT hA G [3] rfl (by decide) rfl rfl gX7_keep_X4_holdRelay rfl dvX4_holdRelay ⟨by decide, by decide⟩ rfl hl.1 rfl (Nat.le_of_ble_eq_true rfl) dX7_keep_32 ⟨Nat.zero_le _, Nat.zero_le _⟩) hA G [3] [0, 1, 2] [0, 1, 2, 3] rfl rfl (by decide) (by decide) (by decide) (fun _ => rfl) (fun _ H locs w_32 G => ?_)
    refine lv_iconst (v := nI 1) Z.1 Z.2.1 dX7_keep_35 (by decide +kernel) ?_
    have hk9 : zh_keep zr (nI d) y = true := by unfold zh_keep; rw [c4_0, decide_eq_true c9, decide_eq_true c20]; rfl
    exact zk_reti Z hR_ hlk hK hQ G () (by rw [if_pos hk9]; rfl) (by rw [if_pos hk9, if_pos hk9, if_pos hk9]) dX7_keep_36
  have c20 : ¬ y < nI zr := c20
  refine lv_iconst (v := (-1)) Z.1 Z.2.1 dX7_keep_23 (by decide +kernel) ?_
  have hk9 : ¬ zh_keep zr (nI d) y = true := by unfold zh_keep; rw [decide_eq_false (show ¬ y < nI zr from c20)]; simp
  exact zk_reti Z hR_ hlk hK hQ G () (by rw [if_neg hk9]) (by rw [if_neg hk9, if_neg hk9, if_neg hk9]) dX7_keep_24

abbrev rm_X7_row : Room := { frames := 2, cells := 0, slots := 0, locals := 46 }
theorem dvX7_row : zk_dv yX7_row RX7 3 := by decide +kernel
set_option maxRecDepth 100000 in
set_option maxHeartbeats 4000000 in
theorem ct_X7_row (l : Launch) (D : va_G) (g : Nat → ClassId) (τ : Nat → Nat) (a : Nat → Nat) (pic : Bool) (storm : Nat) (chance : Int32) (sf : Nat → Option Nat) (so : Nat) (si : Nat) (sort : Int32) (len : Nat) (rel : Int32) (It : Nat → Int64) (x : Int32) (y : Int32) (z : Int32) (hsf : zb_w 6 x = true → sf (x.toInt.toNat) = some so) : zk_MI l D g τ yX7_row wsX7_row rm_X7_row [.ref (a 0), .int x, .int y, .int z] [(a 0, .inr (7, [.ref (a 1), .ref (a 2), .ref (a 3), .ref (a 4), .ref (a 50), .ref (a 60), .ref (a 7), .ref (a 8), .int (zk_b pic), .int (nI storm), .int chance])), (a 8, .inl (g 4, 6, .inr (.inr (.inr (.inr sf))))), (so, .inr (4, [.ref si, .int sort, .int (nI len), .int rel])), (si, .inl (g 1, 60, .inr (.inl It)))] (fun (r : Int32) (_ : Unit) => r = zh_row x y z) (fun (_ : Unit) => [(a 0, .inr (7, [.ref (a 1), .ref (a 2), .ref (a 3), .ref (a 4), .ref (a 50), .ref (a 60), .ref (a 7), .ref (a 8), .int (zk_b pic), .int (nI storm), .int chance])), (a 8, .inl (g 4, 6, .inr (.inr (.inr (.inr sf))))), (so, .inr (4, [.ref si, .int ((if (zh_rowok x y z && decide (¬ z < 0)) = true then y else sort)), .int (nI (if (zh_rowok x y z && decide (¬ z < 0)) = true then z.toInt.toNat else len)), .int ((if (zh_rowok x y z && decide (¬ z < 0)) = true then (-1) else rel))])), (si, .inl (g 1, 60, .inr (.inl (if (zh_rowok x y z && decide (¬ z < 0)) = true then zs_fill (fun _ => lN 0) It 60 else It))))]) := by
  refine zk_of (Qc := fun A => va_Qi (fun (r : Int32) (_ : Unit) => r = zh_row x y z) (zk_B D g A (fun (_ : Unit) => [(a 0, .inr (7, [.ref (a 1), .ref (a 2), .ref (a 3), .ref (a 4), .ref (a 50), .ref (a 60), .ref (a 7), .ref (a 8), .int (zk_b pic), .int (nI storm), .int chance])), (a 8, .inl (g 4, 6, .inr (.inr (.inr (.inr sf))))), (so, .inr (4, [.ref si, .int ((if (zh_rowok x y z && decide (¬ z < 0)) = true then y else sort)), .int (nI (if (zh_rowok x y z && decide (¬ z < 0)) = true then z.toInt.toNat else len)), .int ((if (zh_rowok x y z && decide (¬ z < 0)) = true then (-1) else rel))])), (si, .inl (g 1, 60, .inr (.inl (if (zh_rowok x y z && decide (¬ z < 0)) = true then zs_fill (fun _ => lN 0) It 60 else It))))])) A) (cc := cX7_row) (maxL := 4) (ret := (some .int)) (own := RX7) (by decide) rfl rfl (Nat.le_of_ble_eq_true rfl) ?_
  intro pP eE sS mM args below meth cC aA ls qQ Z hR_ hlk hnm hK hT hA hQ G hl
  have hinX7 : ∀ w ∈ u_ws RX7 TX7 11, w ∈ wsX7_row := (fun _ h => List.mem_cons_of_mem _ (List.mem_append_left _ (List.mem_append_right _ h)))
  refine lv_iload_n Z.1 Z.2.1 dX7_row_0 rfl (lv_at hl 1 rfl) ?_
  refine zk_ci (WF := fun (_ : Unit) => [(a 0, .inr (7, [.ref (a 1), .ref (a 2), .ref (a 3), .ref (a 4), .ref (a 50), .ref (a 60), .ref (a 7), .ref (a 8), .int (zk_b pic), .int (nI storm), .int chance])), (a 8, .inl (g 4, 6, .inr (.inr (.inr (.inr sf))))), (so, .inr (4, [.ref si, .int sort, .int (nI len), .int rel])), (si, .inl (g 1, 60, .inr (.inl It)))]) (wr := [(a 0, .inr (7, [.ref (a 1), .ref (a 2), .ref (a 3), .ref (a 4), .ref (a 50), .ref (a 60), .ref (a 7), .ref (a 8), .int (zk_b pic), .int (nI storm), .int chance])), (a 8, .inl (g 4, 6, .inr (.inr (.inr (.inr sf))))), (so, .inr (4, [.ref si, .int sort, .int (nI len), .int rel])), (si, .inl (g 1, 60, .inr (.inl It)))]) ⟨rfl, rfl⟩ (zk_rs (As := [.int x]) (rest := []) Z ((ct_X7_isShelf l D g τ x ) sS.heap.size) hK hT hA G [] rfl (by decide) gX7_row_X7_isShelf rfl dvX7_isShelf ⟨by decide, by decide⟩ rfl hl.1 rfl (Nat.le_of_ble_eq_true rfl) dX7_row_1 ⟨Nat.zero_le _, Nat.zero_le _⟩) hA G [] [0, 1, 2, 3] [0, 1, 2, 3] rfl rfl (by decide) (by decide) (by decide) (fun _ => rfl) (fun r_1 _ H locs w_1 G => ?_)
  obtain rfl : r_1 = zk_b (zb_w 6 x) := w_1
  refine lv_if_eq (tgt := 22) Z.1 Z.2.1 dX7_row_4 (by decide) (fun c4 => ?_) (fun c4 => ?_)
  · have c4 : (zb_w 6 x) = false := zk_b0.mp c4
    refine lv_iconst (v := (-1)) Z.1 Z.2.1 dX7_row_22 (by decide +kernel) ?_
    have hk8 : ¬ zh_rowok x y z = true := by unfold zh_rowok; rw [c4]; simp
    have hk9 : ¬ (zh_rowok x y z && decide (¬ z < 0)) = true := fun q9 => hk8 (Bool.and_eq_true _ _ ▸ q9).1
    exact zk_reti Z hR_ hlk hK hQ G () (by unfold zh_row; rw [if_neg hk8]) (by rw [if_neg hk9, if_neg hk9, if_neg hk9, if_neg hk9]) dX7_row_23
  have c4 : (zb_w 6 x) = true := zk_b1.mp c4
  have c4_0 := c4
  obtain ⟨d, hd, rfl, hd2⟩ := zb_w_ex c4
  have hsd : sf d = some so := by have h9 := hsf c4_0; rw [zb_nat hd] at h9; exact h9
  refine lv_iload_n Z.1 Z.2.1 dX7_row_7 rfl (lv_at hl 2 rfl) ?_
  refine lv_if_lt (tgt := 22) Z.1 Z.2.1 dX7_row_8 (by decide) (fun c8 => ?_) (fun c8 => ?_)
  · have c8 : y < 0 := c8
    refine lv_iconst (v := (-1)) Z.1 Z.2.1 dX7_row_22 (by decide +kernel) ?_
    have hk8 : ¬ zh_rowok (nI d) y z = true := by unfold zh_rowok; rw [decide_eq_false (fun q9 : ¬ y < 0 => q9 c8)]; simp
    have hk9 : ¬ (zh_rowok (nI d) y z && decide (¬ z < 0)) = true := fun q9 => hk8 (Bool.and_eq_true _ _ ▸ q9).1
    exact zk_reti Z hR_ hlk hK hQ G () (by unfold zh_row; rw [if_neg hk8]) (by rw [if_neg hk9, if_neg hk9, if_neg hk9, if_neg hk9]) dX7_row_23
  have c8 : ¬ y < 0 := c8
  refine lv_iload_n Z.1 Z.2.1 dX7_row_11 rfl (lv_at hl 2 rfl) ?_
  refine lv_iconst (v := nI 4) Z.1 Z.2.1 dX7_row_12 (by decide +kernel) ?_
  refine lv_icmp_gt (tgt := 22) Z.1 Z.2.1 dX7_row_13 (by decide) (fun c13 => ?_) (fun c13 => ?_)
  · have c13 : 4 < y := c13
    refine lv_iconst (v := (-1)) Z.1 Z.2.1 dX7_row_22 (by decide +kernel) ?_
    have hk8 : ¬ zh_rowok (nI d) y z = true := by unfold zh_rowok; rw [decide_eq_false (fun q9 : ¬ 4 < y => q9 c13)]; simp
    have hk9 : ¬ (zh_rowok (nI d) y z && decide (¬ z < 0)) = true := fun q9 => hk8 (Bool.and_eq_true _ _ ▸ q9).1
    exact zk_reti Z hR_ hlk hK hQ G () (by unfold zh_row; rw [if_neg hk8]) (by rw [if_neg hk9, if_neg hk9, if_neg hk9, if_neg hk9]) dX7_row_23
  have c13 : ¬ 4 < y := c13
  refine lv_iload_n Z.1 Z.2.1 dX7_row_16 rfl (lv_at hl 3 rfl) ?_
  refine lv_bipush (v := nI 60) Z.1 Z.2.1 dX7_row_17 (by decide +kernel) ?_
  refine lv_icmp_le (tgt := 24) Z.1 Z.2.1 dX7_row_19 (by decide) (fun c19 => ?_) (fun c19 => ?_)
  · have c19 : z ≤ 60 := c19
    refine lv_iload_n Z.1 Z.2.1 dX7_row_24 rfl (lv_at hl 3 rfl) ?_
    refine lv_if_ge (tgt := 31) Z.1 Z.2.1 dX7_row_25 (by decide) (fun c25 => ?_) (fun c25 => ?_)
    · have c25 : 0 ≤ z := c25
      have c25 : ¬ z < 0 := Int32.not_lt.mpr c25
      obtain ⟨u, hu, rfl⟩ := nI_of c25
      refine lv_aload_n Z.1 Z.2.1 dX7_row_31 rfl (lv_at hl 0 rfl) ?_
      refine zk_get (C := RX7) (T := TX7) (N := 11) (ci := 7) Z hK G hinX7 0 rfl rfl 7 (by decide) (List.mem_of_getElem? (i := 1) rfl) rfl (v := .ref (a 8)) rfl dX7_row_32 ?_
      refine lv_iload_n Z.1 Z.2.1 dX7_row_35 rfl (lv_at hl 1 rfl) ?_
      refine zk_qald Z hK G 1 rfl (k := d) (by omega) (by decide) (v := so) hsd dX7_row_36 ?_
      refine lv_iload_n Z.1 Z.2.1 dX7_row_37 rfl (lv_at hl 2 rfl) ?_
      refine lv_iload_n Z.1 Z.2.1 dX7_row_38 rfl (lv_at hl 3 rfl) ?_
      refine zk_cv (WF := fun (_ : Unit) => [(a 0, .inr (7, [.ref (a 1), .ref (a 2), .ref (a 3), .ref (a 4), .ref (a 50), .ref (a 60), .ref (a 7), .ref (a 8), .int (zk_b pic), .int (nI storm), .int chance])), (a 8, .inl (g 4, 6, .inr (.inr (.inr (.inr sf))))), (so, .inr (4, [.ref si, .int y, .int (nI u), .int (-1)])), (si, .inl (g 1, 60, .inr (.inl (zs_fill (fun _ => lN 0) It 60))))]) (wr := [(a 0, .inr (7, [.ref (a 1), .ref (a 2), .ref (a 3), .ref (a 4), .ref (a 50), .ref (a 60), .ref (a 7), .ref (a 8), .int (zk_b pic), .int (nI storm), .int chance])), (a 8, .inl (g 4, 6, .inr (.inr (.inr (.inr sf)))))]) ⟨rfl, rfl⟩ (zk_rv (As := [.int y, .int (nI u)]) (rest := []) (q0 := 2) (ci := 4) Z ((ct_X4_holdRow l D g τ so si sort len rel It y u ) H.size) hK hT hA G [2, 3] rfl (by decide) rfl rfl gX7_row_X4_holdRow rfl dvX4_holdRow ⟨by decide, by decide⟩ rfl hl.1 rfl (Nat.le_of_ble_eq_true rfl) dX7_row_39 ⟨Nat.zero_le _, Nat.zero_le _⟩) hA G [2, 3] [0, 1] [0, 1, 2, 3] rfl rfl (by decide) (by decide) (by decide) (fun _ => rfl) (fun _ H locs w_39 G => ?_)
      refine lv_iconst (v := nI 1) Z.1 Z.2.1 dX7_row_42 (by decide +kernel) ?_
      have hk8 : zh_rowok (nI d) y (nI u) = true := by unfold zh_rowok; rw [c4_0, decide_eq_true c8, decide_eq_true c13, decide_eq_true (Int32.not_lt.mpr c19)]; rfl
      have hk9 : (zh_rowok (nI d) y (nI u) && decide (¬ nI u < 0)) = true := by rw [hk8, decide_eq_true c25]; rfl
      exact zk_reti Z hR_ hlk hK hQ G () (by unfold zh_row; rw [if_pos hk8, if_neg c25]; rfl) (by rw [if_pos hk9, if_pos hk9, if_pos hk9, if_pos hk9, zb_nat hu]) dX7_row_43
    have c25 : ¬ 0 ≤ z := c25
    have c25 : z < 0 := Int32.not_le.mp c25
    refine lv_bipush (v := (-14)) Z.1 Z.2.1 dX7_row_28 (by decide +kernel) ?_
    have hk8 : zh_rowok (nI d) y z = true := by unfold zh_rowok; rw [c4_0, decide_eq_true c8, decide_eq_true c13, decide_eq_true (Int32.not_lt.mpr c19)]; rfl
    have hk9 : ¬ (zh_rowok (nI d) y z && decide (¬ z < 0)) = true := by rw [decide_eq_false (fun q9 : ¬ z < 0 => q9 c25)]; simp
    exact zk_reti Z hR_ hlk hK hQ G () (by unfold zh_row; rw [if_pos hk8, if_pos c25]) (by rw [if_neg hk9, if_neg hk9, if_neg hk9, if_neg hk9]) dX7_row_30
  have c19 : ¬ z ≤ 60 := c19
  refine lv_iconst (v := (-1)) Z.1 Z.2.1 dX7_row_22 (by decide +kernel) ?_
  have hk8 : ¬ zh_rowok (nI d) y z = true := by unfold zh_rowok; rw [decide_eq_false (fun q9 : ¬ 60 < z => q9 (Int32.not_le.mp c19))]; simp
  have hk9 : ¬ (zh_rowok (nI d) y z && decide (¬ z < 0)) = true := fun q9 => hk8 (Bool.and_eq_true _ _ ▸ q9).1
  exact zk_reti Z hR_ hlk hK hQ G () (by unfold zh_row; rw [if_neg hk8]) (by rw [if_neg hk9, if_neg hk9, if_neg hk9, if_neg hk9]) dX7_row_23

abbrev rm_X7_put : Room := { frames := 2, cells := 0, slots := 0, locals := 44 }
theorem dvX7_put : zk_dv yX7_put RX7 3 := by decide +kernel
set_option maxRecDepth 100000 in
set_option maxHeartbeats 4000000 in
theorem ct_X7_put (l : Launch) (D : va_G) (g : Nat → ClassId) (τ : Nat → Nat) (a : Nat → Nat) (pic : Bool) (storm : Nat) (chance : Int32) (sf : Nat → Option Nat) (so : Nat) (si : Nat) (sort : Int32) (len : Nat) (rel : Int32) (It : Nat → Int64) (x : Int32) (y : Int32) (v : Int64) (hlen : len ≤ 60) (hsf : zb_w 6 x = true → sf (x.toInt.toNat) = some so) : zk_MI l D g τ yX7_put wsX7_put rm_X7_put [.ref (a 0), .int x, .int y, .long v] [(a 0, .inr (7, [.ref (a 1), .ref (a 2), .ref (a 3), .ref (a 4), .ref (a 50), .ref (a 60), .ref (a 7), .ref (a 8), .int (zk_b pic), .int (nI storm), .int chance])), (a 8, .inl (g 4, 6, .inr (.inr (.inr (.inr sf))))), (so, .inr (4, [.ref si, .int sort, .int (nI len), .int rel])), (si, .inl (g 1, 60, .inr (.inl It)))] (fun (r : Int32) (_ : Unit) => r = if zh_re x y sort rel len = 0 then 1 else zh_re x y sort rel len) (fun (_ : Unit) => [(a 0, .inr (7, [.ref (a 1), .ref (a 2), .ref (a 3), .ref (a 4), .ref (a 50), .ref (a 60), .ref (a 7), .ref (a 8), .int (zk_b pic), .int (nI storm), .int chance])), (a 8, .inl (g 4, 6, .inr (.inr (.inr (.inr sf))))), (so, .inr (4, [.ref si, .int sort, .int (nI len), .int rel])), (si, .inl (g 1, 60, .inr (.inl (if zh_re x y sort rel len = 0 then vp_updL It (y.toInt.toNat) (zh_as sort v) else It))))]) := by
  refine zk_of (Qc := fun A => va_Qi (fun (r : Int32) (_ : Unit) => r = if zh_re x y sort rel len = 0 then 1 else zh_re x y sort rel len) (zk_B D g A (fun (_ : Unit) => [(a 0, .inr (7, [.ref (a 1), .ref (a 2), .ref (a 3), .ref (a 4), .ref (a 50), .ref (a 60), .ref (a 7), .ref (a 8), .int (zk_b pic), .int (nI storm), .int chance])), (a 8, .inl (g 4, 6, .inr (.inr (.inr (.inr sf))))), (so, .inr (4, [.ref si, .int sort, .int (nI len), .int rel])), (si, .inl (g 1, 60, .inr (.inl (if zh_re x y sort rel len = 0 then vp_updL It (y.toInt.toNat) (zh_as sort v) else It))))])) A) (cc := cX7_put) (maxL := 6) (ret := (some .int)) (own := RX7) (by decide) rfl rfl (Nat.le_of_ble_eq_true rfl) ?_
  intro pP eE sS mM args below meth cC aA ls qQ Z hR_ hlk hnm hK hT hA hQ G hl
  have hinX7 : ∀ w ∈ u_ws RX7 TX7 11, w ∈ wsX7_put := (fun _ h => List.mem_cons_of_mem _ (List.mem_append_left _ (List.mem_append_right _ h)))
  refine lv_aload_n Z.1 Z.2.1 dX7_put_0 rfl (lv_at hl 0 rfl) ?_
  refine lv_iload_n Z.1 Z.2.1 dX7_put_1 rfl (lv_at hl 1 rfl) ?_
  refine lv_iload_n Z.1 Z.2.1 dX7_put_2 rfl (lv_at hl 2 rfl) ?_
  refine zk_ci (WF := fun (_ : Unit) => [(a 0, .inr (7, [.ref (a 1), .ref (a 2), .ref (a 3), .ref (a 4), .ref (a 50), .ref (a 60), .ref (a 7), .ref (a 8), .int (zk_b pic), .int (nI storm), .int chance])), (a 8, .inl (g 4, 6, .inr (.inr (.inr (.inr sf))))), (so, .inr (4, [.ref si, .int sort, .int (nI len), .int rel])), (si, .inl (g 1, 60, .inr (.inl It)))]) (wr := [(si, .inl (g 1, 60, .inr (.inl It)))]) ⟨rfl, rfl⟩ (zk_rv (As := [.int x, .int y]) (rest := []) (q0 := 0) (ci := 7) Z ((ct_X7_refusalOfElement l D g τ a pic storm chance sf so si sort len rel x y (by exact hsf)) sS.heap.size) hK hT hA G [0, 1, 2] rfl (by decide) rfl rfl gX7_put_X7_refusalOfElement rfl dvX7_refusalOfElement ⟨by decide, by decide⟩ rfl hl.1 rfl (Nat.le_of_ble_eq_true rfl) dX7_put_3 ⟨Nat.zero_le _, Nat.zero_le _⟩) hA G [0, 1, 2] [3] [1, 2, 3, 0] rfl rfl (by decide) (by decide) (by decide) (fun _ => rfl) (fun r_3 _ H locs w_3 G => ?_)
  obtain rfl : r_3 = zh_re x y sort rel len := w_3
  refine lv_istore (lv' := [(5, .int (zh_re x y sort rel len)), (0, .ref (a 0)), (1, .int x), (2, .int y), (3, .long v)]) Z.1 Z.2.1 dX7_put_6 hl (by decide) rfl (fun ls hl => ?_)
  refine lv_iload Z.1 Z.2.1 dX7_put_8 (lv_at hl 0 rfl) ?_
  refine lv_if_eq (tgt := 16) Z.1 Z.2.1 dX7_put_10 (by decide) (fun c10 => ?_) (fun c10 => ?_)
  · have c10 : zh_re x y sort rel len = 0 := c10
    have c10_0 := c10
    obtain ⟨hw9, hp9⟩ := zh_re_w c10
    obtain ⟨i, u, ei, eu, hiu⟩ := zh_pl_ex hlen hp9
    have eu1 : u = 1 := (nI_eq (by omega) (by decide)).mp eu.symm
    subst eu1
    subst ei
    obtain ⟨d, hd, rfl, hd2⟩ := zb_w_ex hw9
    have hsd : sf d = some so := by have h9 := hsf hw9; rw [zb_nat hd] at h9; exact h9
    refine lv_aload_n Z.1 Z.2.1 dX7_put_16 rfl (lv_at hl 1 rfl) ?_
    refine zk_get (C := RX7) (T := TX7) (N := 11) (ci := 7) Z hK G hinX7 0 rfl rfl 7 (by decide) (List.mem_of_getElem? (i := 1) rfl) rfl (v := .ref (a 8)) rfl dX7_put_17 ?_
    refine lv_iload_n Z.1 Z.2.1 dX7_put_20 rfl (lv_at hl 2 rfl) ?_
    refine zk_qald Z hK G 1 rfl (k := d) (by omega) (by decide) (v := so) hsd dX7_put_21 ?_
    refine lv_iload_n Z.1 Z.2.1 dX7_put_22 rfl (lv_at hl 3 rfl) ?_
    refine lv_lload_n Z.1 Z.2.1 dX7_put_23 rfl (lv_at hl 4 rfl) ?_
    refine zk_cv (WF := fun (_ : Unit) => [(a 0, .inr (7, [.ref (a 1), .ref (a 2), .ref (a 3), .ref (a 4), .ref (a 50), .ref (a 60), .ref (a 7), .ref (a 8), .int (zk_b pic), .int (nI storm), .int chance])), (a 8, .inl (g 4, 6, .inr (.inr (.inr (.inr sf))))), (so, .inr (4, [.ref si, .int sort, .int (nI len), .int rel])), (si, .inl (g 1, 60, .inr (.inl (vp_updL It i (zh_as sort v)))))]) (wr := [(a 0, .inr (7, [.ref (a 1), .ref (a 2), .ref (a 3), .ref (a 4), .ref (a 50), .ref (a 60), .ref (a 7), .ref (a 8), .int (zk_b pic), .int (nI storm), .int chance])), (a 8, .inl (g 4, 6, .inr (.inr (.inr (.inr sf)))))]) ⟨rfl, rfl⟩ (zk_rv (As := [.int (nI i), .long v]) (rest := []) (q0 := 2) (ci := 4) Z ((ct_X4_lay l D g τ so si sort len rel It i v (by omega)) H.size) hK hT hA G [2, 3] rfl (by decide) rfl rfl gX7_put_X4_lay rfl dvX4_lay ⟨by decide, by decide⟩ rfl hl.1 rfl (Nat.le_of_ble_eq_true rfl) dX7_put_24 ⟨Nat.zero_le _, Nat.zero_le _⟩) hA G [2, 3] [0, 1] [0, 1, 2, 3] rfl rfl (by decide) (by decide) (by decide) (fun _ => rfl) (fun _ H locs w_24 G => ?_)
    refine lv_iconst (v := nI 1) Z.1 Z.2.1 dX7_put_27 (by decide +kernel) ?_
    exact zk_reti Z hR_ hlk hK hQ G () (by rw [if_pos c10_0]; rfl) (by rw [if_pos c10_0, zb_nat (by omega)]) dX7_put_28
  have c10 : ¬ zh_re x y sort rel len = 0 := c10
  refine lv_iload Z.1 Z.2.1 dX7_put_13 (lv_at hl 0 rfl) ?_
  exact zk_reti Z hR_ hlk hK hQ G () (by rw [if_neg c10]) (by rw [if_neg c10]) dX7_put_15

abbrev rm_X7_element : Room := { frames := 2, cells := 0, slots := 0, locals := 44 }
theorem dvX7_element : zk_dv yX7_element RX7 2 := by decide +kernel
set_option maxRecDepth 100000 in
set_option maxHeartbeats 4000000 in
theorem ct_X7_element (l : Launch) (D : va_G) (g : Nat → ClassId) (τ : Nat → Nat) (a : Nat → Nat) (pic : Bool) (storm : Nat) (chance : Int32) (sf : Nat → Option Nat) (so : Nat) (si : Nat) (sort : Int32) (len : Nat) (rel : Int32) (It : Nat → Int64) (x : Int32) (y : Int32) (hlen : len ≤ 60) (hsf : zb_w 6 x = true → sf (x.toInt.toNat) = some so) : zk_ML l D g τ yX7_element wsX7_element rm_X7_element [.ref (a 0), .int x, .int y] [(a 0, .inr (7, [.ref (a 1), .ref (a 2), .ref (a 3), .ref (a 4), .ref (a 50), .ref (a 60), .ref (a 7), .ref (a 8), .int (zk_b pic), .int (nI storm), .int chance])), (a 8, .inl (g 4, 6, .inr (.inr (.inr (.inr sf))))), (so, .inr (4, [.ref si, .int sort, .int (nI len), .int rel])), (si, .inl (g 1, 60, .inr (.inl It)))] (fun (r : Int64) (_ : Unit) => r = if zh_re x y sort rel len = 0 then It (y.toInt.toNat) else -9223372036854775808) (fun (_ : Unit) => [(a 0, .inr (7, [.ref (a 1), .ref (a 2), .ref (a 3), .ref (a 4), .ref (a 50), .ref (a 60), .ref (a 7), .ref (a 8), .int (zk_b pic), .int (nI storm), .int chance])), (a 8, .inl (g 4, 6, .inr (.inr (.inr (.inr sf))))), (so, .inr (4, [.ref si, .int sort, .int (nI len), .int rel])), (si, .inl (g 1, 60, .inr (.inl It)))]) := by
  refine zk_of (Qc := fun A => va_Ql (fun (r : Int64) (_ : Unit) => r = if zh_re x y sort rel len = 0 then It (y.toInt.toNat) else -9223372036854775808) (zk_B D g A (fun (_ : Unit) => [(a 0, .inr (7, [.ref (a 1), .ref (a 2), .ref (a 3), .ref (a 4), .ref (a 50), .ref (a 60), .ref (a 7), .ref (a 8), .int (zk_b pic), .int (nI storm), .int chance])), (a 8, .inl (g 4, 6, .inr (.inr (.inr (.inr sf))))), (so, .inr (4, [.ref si, .int sort, .int (nI len), .int rel])), (si, .inl (g 1, 60, .inr (.inl It)))])) A) (cc := cX7_element) (maxL := 3) (ret := (some .long)) (own := RX7) (by decide) rfl rfl (Nat.le_of_ble_eq_true rfl) ?_
  intro pP eE sS mM args below meth cC aA ls qQ Z hR_ hlk hnm hK hT hA hQ G hl
  have hinX4 : ∀ w ∈ u_ws RX4 TX4 4, w ∈ wsX7_element := (fun _ h => List.mem_cons_of_mem _ (List.mem_append_right _ h))
  have hinX7 : ∀ w ∈ u_ws RX7 TX7 11, w ∈ wsX7_element := (fun _ h => List.mem_cons_of_mem _ (List.mem_append_left _ (List.mem_append_right _ h)))
  refine lv_aload_n Z.1 Z.2.1 dX7_element_0 rfl (lv_at hl 0 rfl) ?_
  refine lv_iload_n Z.1 Z.2.1 dX7_element_1 rfl (lv_at hl 1 rfl) ?_
  refine lv_iload_n Z.1 Z.2.1 dX7_element_2 rfl (lv_at hl 2 rfl) ?_
  refine zk_ci (WF := fun (_ : Unit) => [(a 0, .inr (7, [.ref (a 1), .ref (a 2), .ref (a 3), .ref (a 4), .ref (a 50), .ref (a 60), .ref (a 7), .ref (a 8), .int (zk_b pic), .int (nI storm), .int chance])), (a 8, .inl (g 4, 6, .inr (.inr (.inr (.inr sf))))), (so, .inr (4, [.ref si, .int sort, .int (nI len), .int rel])), (si, .inl (g 1, 60, .inr (.inl It)))]) (wr := [(si, .inl (g 1, 60, .inr (.inl It)))]) ⟨rfl, rfl⟩ (zk_rv (As := [.int x, .int y]) (rest := []) (q0 := 0) (ci := 7) Z ((ct_X7_refusalOfElement l D g τ a pic storm chance sf so si sort len rel x y (by exact hsf)) sS.heap.size) hK hT hA G [0, 1, 2] rfl (by decide) rfl rfl gX7_element_X7_refusalOfElement rfl dvX7_refusalOfElement ⟨by decide, by decide⟩ rfl hl.1 rfl (Nat.le_of_ble_eq_true rfl) dX7_element_3 ⟨Nat.zero_le _, Nat.zero_le _⟩) hA G [0, 1, 2] [3] [1, 2, 3, 0] rfl rfl (by decide) (by decide) (by decide) (fun _ => rfl) (fun r_3 _ H locs w_3 G => ?_)
  obtain rfl : r_3 = zh_re x y sort rel len := w_3
  refine lv_if_eq (tgt := 15) Z.1 Z.2.1 dX7_element_6 (by decide) (fun c6 => ?_) (fun c6 => ?_)
  · have c6 : zh_re x y sort rel len = 0 := c6
    have c6_0 := c6
    obtain ⟨hw9, hp9⟩ := zh_re_w c6
    obtain ⟨i, u, ei, eu, hiu⟩ := zh_pl_ex hlen hp9
    have eu1 : u = 1 := (nI_eq (by omega) (by decide)).mp eu.symm
    subst eu1
    subst ei
    obtain ⟨d, hd, rfl, hd2⟩ := zb_w_ex hw9
    have hsd : sf d = some so := by have h9 := hsf hw9; rw [zb_nat hd] at h9; exact h9
    refine lv_aload_n Z.1 Z.2.1 dX7_element_15 rfl (lv_at hl 0 rfl) ?_
    refine zk_get (C := RX7) (T := TX7) (N := 11) (ci := 7) Z hK G hinX7 0 rfl rfl 7 (by decide) (List.mem_of_getElem? (i := 2) rfl) rfl (v := .ref (a 8)) rfl dX7_element_16 ?_
    refine lv_iload_n Z.1 Z.2.1 dX7_element_19 rfl (lv_at hl 1 rfl) ?_
    refine zk_qald Z hK G 1 rfl (k := d) (by omega) (by decide) (v := so) hsd dX7_element_20 ?_
    refine zk_get (C := RX4) (T := TX4) (N := 4) (ci := 4) Z hK G hinX4 2 rfl rfl 0 (by decide) (List.mem_of_getElem? (i := 3) rfl) rfl (v := .ref si) rfl dX7_element_21 ?_
    refine lv_iload_n Z.1 Z.2.1 dX7_element_24 rfl (lv_at hl 2 rfl) ?_
    refine zk_lald Z hK G 3 rfl (k := i) (by omega) (by decide) (v := It i) rfl dX7_element_25 ?_
    exact zk_retl Z hR_ hlk hK hQ G () (by rw [if_pos c6_0, zb_nat (by omega)]) rfl dX7_element_26
  have c6 : ¬ zh_re x y sort rel len = 0 := c6
  refine lv_ldc2 (v := (-9223372036854775808)) Z.1 Z.2.1 Z.2.2.2.1 (Z.2.2.2.2 _ (List.mem_of_getElem? (i := 1) rfl)) dX7_element_9 ?_
  refine lv_goto (tgt := 26) Z.1 Z.2.1 dX7_element_12 (by decide) ?_
  exact zk_retl Z hR_ hlk hK hQ G () (by rw [if_neg c6]) rfl dX7_element_26

abbrev rm_X7_taken : Room := { frames := 2, cells := 0, slots := 0, locals := 43 }
theorem dvX7_taken : zk_dv yX7_taken RX7 2 := by decide +kernel
set_option maxRecDepth 100000 in
set_option maxHeartbeats 4000000 in
theorem ct_X7_taken (l : Launch) (D : va_G) (g : Nat → ClassId) (τ : Nat → Nat) (a : Nat → Nat) (pic : Bool) (storm : Nat) (chance : Int32) (zr : Nat) (rn : Nat) (nb : Int32) (KD : Nat → Nat) (sf : Nat → Option Nat) (so : Nat) (si : Nat) (sort : Int32) (len : Nat) (rel : Int32) (x : Int32) (y : Int32) (hz : zr ≤ 50) (hsf : zb_w 6 x = true → sf (x.toInt.toNat) = some so) : zk_MI l D g τ yX7_taken wsX7_taken rm_X7_taken [.ref (a 0), .int x, .int y] [(a 0, .inr (7, [.ref (a 1), .ref (a 2), .ref (a 3), .ref (a 4), .ref (a 50), .ref (a 60), .ref (a 7), .ref (a 8), .int (zk_b pic), .int (nI storm), .int chance])), (a 7, .inr (3, [.int (nI zr), .int (nI rn), .ref (a 70), .ref (a 71), .int nb])), (a 71, .inl (g 0, 50, .inl (fun i => nI (KD i)))), (a 8, .inl (g 4, 6, .inr (.inr (.inr (.inr sf))))), (so, .inr (4, [.ref si, .int sort, .int (nI len), .int rel]))] (fun (r : Int32) (_ : Unit) => r = zh_taken zr KD x y sort rel) (fun (_ : Unit) => [(a 0, .inr (7, [.ref (a 1), .ref (a 2), .ref (a 3), .ref (a 4), .ref (a 50), .ref (a 60), .ref (a 7), .ref (a 8), .int (zk_b pic), .int (nI storm), .int chance])), (a 7, .inr (3, [.int (nI zr), .int (nI rn), .ref (a 70), .ref (a 71), .int nb])), (a 71, .inl (g 0, 50, .inl (fun i => nI (KD i)))), (a 8, .inl (g 4, 6, .inr (.inr (.inr (.inr sf))))), (so, .inr (4, [.ref si, .int sort, .int (nI len), .int rel]))]) := by
  refine zk_of (Qc := fun A => va_Qi (fun (r : Int32) (_ : Unit) => r = zh_taken zr KD x y sort rel) (zk_B D g A (fun (_ : Unit) => [(a 0, .inr (7, [.ref (a 1), .ref (a 2), .ref (a 3), .ref (a 4), .ref (a 50), .ref (a 60), .ref (a 7), .ref (a 8), .int (zk_b pic), .int (nI storm), .int chance])), (a 7, .inr (3, [.int (nI zr), .int (nI rn), .ref (a 70), .ref (a 71), .int nb])), (a 71, .inl (g 0, 50, .inl (fun i => nI (KD i)))), (a 8, .inl (g 4, 6, .inr (.inr (.inr (.inr sf))))), (so, .inr (4, [.ref si, .int sort, .int (nI len), .int rel]))])) A) (cc := cX7_taken) (maxL := 5) (ret := (some .int)) (own := RX7) (by decide) rfl rfl (Nat.le_of_ble_eq_true rfl) ?_
  intro pP eE sS mM args below meth cC aA ls qQ Z hR_ hlk hnm hK hT hA hQ G hl
  have hinX4 : ∀ w ∈ u_ws RX4 TX4 4, w ∈ wsX7_taken := (fun _ h => List.mem_cons_of_mem _ (List.mem_append_left _ (List.mem_append_right _ h)))
  have hinX7 : ∀ w ∈ u_ws RX7 TX7 11, w ∈ wsX7_taken := (fun _ h => List.mem_cons_of_mem _ (List.mem_append_left _ (List.mem_append_left _ (List.mem_append_right _ h))))
  refine lv_iload_n Z.1 Z.2.1 dX7_taken_0 rfl (lv_at hl 1 rfl) ?_
  refine zk_ci (WF := fun (_ : Unit) => [(a 0, .inr (7, [.ref (a 1), .ref (a 2), .ref (a 3), .ref (a 4), .ref (a 50), .ref (a 60), .ref (a 7), .ref (a 8), .int (zk_b pic), .int (nI storm), .int chance])), (a 7, .inr (3, [.int (nI zr), .int (nI rn), .ref (a 70), .ref (a 71), .int nb])), (a 71, .inl (g 0, 50, .inl (fun i => nI (KD i)))), (a 8, .inl (g 4, 6, .inr (.inr (.inr (.inr sf))))), (so, .inr (4, [.ref si, .int sort, .int (nI len), .int rel]))]) (wr := [(a 0, .inr (7, [.ref (a 1), .ref (a 2), .ref (a 3), .ref (a 4), .ref (a 50), .ref (a 60), .ref (a 7), .ref (a 8), .int (zk_b pic), .int (nI storm), .int chance])), (a 7, .inr (3, [.int (nI zr), .int (nI rn), .ref (a 70), .ref (a 71), .int nb])), (a 71, .inl (g 0, 50, .inl (fun i => nI (KD i)))), (a 8, .inl (g 4, 6, .inr (.inr (.inr (.inr sf))))), (so, .inr (4, [.ref si, .int sort, .int (nI len), .int rel]))]) ⟨rfl, rfl⟩ (zk_rs (As := [.int x]) (rest := []) Z ((ct_X7_isShelf l D g τ x ) sS.heap.size) hK hT hA G [] rfl (by decide) gX7_taken_X7_isShelf rfl dvX7_isShelf ⟨by decide, by decide⟩ rfl hl.1 rfl (Nat.le_of_ble_eq_true rfl) dX7_taken_1 ⟨Nat.zero_le _, Nat.zero_le _⟩) hA G [] [0, 1, 2, 3, 4] [0, 1, 2, 3, 4] rfl rfl (by decide) (by decide) (by decide) (fun _ => rfl) (fun r_1 _ H locs w_1 G => ?_)
  obtain rfl : r_1 = zk_b (zb_w 6 x) := w_1
  refine lv_if_eq (tgt := 14) Z.1 Z.2.1 dX7_taken_4 (by decide) (fun c4 => ?_) (fun c4 => ?_)
  · have c4 : (zb_w 6 x) = false := zk_b0.mp c4
    refine lv_iconst (v := (-1)) Z.1 Z.2.1 dX7_taken_14 (by decide +kernel) ?_
    exact zk_reti Z hR_ hlk hK hQ G () (by unfold zh_taken; rw [c4]; rfl) rfl dX7_taken_15
  have c4 : (zb_w 6 x) = true := zk_b1.mp c4
  have c4_0 := c4
  obtain ⟨d, hd, rfl, hd2⟩ := zb_w_ex c4
  have hsd : sf d = some so := by have h9 := hsf c4_0; rw [zb_nat hd] at h9; exact h9
  refine lv_iload_n Z.1 Z.2.1 dX7_taken_7 rfl (lv_at hl 2 rfl) ?_
  refine zk_ci (WF := fun (_ : Unit) => [(a 0, .inr (7, [.ref (a 1), .ref (a 2), .ref (a 3), .ref (a 4), .ref (a 50), .ref (a 60), .ref (a 7), .ref (a 8), .int (zk_b pic), .int (nI storm), .int chance])), (a 7, .inr (3, [.int (nI zr), .int (nI rn), .ref (a 70), .ref (a 71), .int nb])), (a 71, .inl (g 0, 50, .inl (fun i => nI (KD i)))), (a 8, .inl (g 4, 6, .inr (.inr (.inr (.inr sf))))), (so, .inr (4, [.ref si, .int sort, .int (nI len), .int rel]))]) (wr := [(a 0, .inr (7, [.ref (a 1), .ref (a 2), .ref (a 3), .ref (a 4), .ref (a 50), .ref (a 60), .ref (a 7), .ref (a 8), .int (zk_b pic), .int (nI storm), .int chance])), (a 7, .inr (3, [.int (nI zr), .int (nI rn), .ref (a 70), .ref (a 71), .int nb])), (a 71, .inl (g 0, 50, .inl (fun i => nI (KD i)))), (a 8, .inl (g 4, 6, .inr (.inr (.inr (.inr sf))))), (so, .inr (4, [.ref si, .int sort, .int (nI len), .int rel]))]) ⟨rfl, rfl⟩ (zk_rs (As := [.int y]) (rest := []) Z ((ct_X3_isKind l D g τ y ) H.size) hK hT hA G [] rfl (by decide) gX7_taken_X3_isKind rfl dvX3_isKind ⟨by decide, by decide⟩ rfl hl.1 rfl (Nat.le_of_ble_eq_true rfl) dX7_taken_8 ⟨Nat.zero_le _, Nat.zero_le _⟩) hA G [] [0, 1, 2, 3, 4] [0, 1, 2, 3, 4] rfl rfl (by decide) (by decide) (by decide) (fun _ => rfl) (fun r_8 _ H locs w_8 G => ?_)
  obtain rfl : r_8 = zk_b (zr_kind y) := w_8
  refine lv_if_ne (tgt := 16) Z.1 Z.2.1 dX7_taken_11 (by decide) (fun c11 => ?_) (fun c11 => ?_)
  · have c11 : (zr_kind y) = true := zk_b1.mp c11
    have c11_0 := c11
    refine lv_aload_n Z.1 Z.2.1 dX7_taken_16 rfl (lv_at hl 0 rfl) ?_
    refine zk_get (C := RX7) (T := TX7) (N := 11) (ci := 7) Z hK G hinX7 0 rfl rfl 7 (by decide) (List.mem_of_getElem? (i := 1) rfl) rfl (v := .ref (a 8)) rfl dX7_taken_17 ?_
    refine lv_iload_n Z.1 Z.2.1 dX7_taken_20 rfl (lv_at hl 1 rfl) ?_
    refine zk_qald Z hK G 3 rfl (k := d) (by omega) (by decide) (v := so) hsd dX7_taken_21 ?_
    refine lv_astore_n (lv' := [(3, .ref so), (0, .ref (a 0)), (1, .int (nI d)), (2, .int y)]) Z.1 Z.2.1 dX7_taken_22 rfl hl (by decide) rfl (fun ls hl => ?_)
    refine lv_aload_n Z.1 Z.2.1 dX7_taken_23 rfl (lv_at hl 0 rfl) ?_
    refine zk_ci (WF := fun (_ : Unit) => [(a 0, .inr (7, [.ref (a 1), .ref (a 2), .ref (a 3), .ref (a 4), .ref (a 50), .ref (a 60), .ref (a 7), .ref (a 8), .int (zk_b pic), .int (nI storm), .int chance])), (a 7, .inr (3, [.int (nI zr), .int (nI rn), .ref (a 70), .ref (a 71), .int nb])), (a 71, .inl (g 0, 50, .inl (fun i => nI (KD i)))), (a 8, .inl (g 4, 6, .inr (.inr (.inr (.inr sf))))), (so, .inr (4, [.ref si, .int sort, .int (nI len), .int rel]))]) (wr := [(a 0, .inr (7, [.ref (a 1), .ref (a 2), .ref (a 3), .ref (a 4), .ref (a 50), .ref (a 60), .ref (a 7), .ref (a 8), .int (zk_b pic), .int (nI storm), .int chance])), (a 7, .inr (3, [.int (nI zr), .int (nI rn), .ref (a 70), .ref (a 71), .int nb])), (a 71, .inl (g 0, 50, .inl (fun i => nI (KD i)))), (a 8, .inl (g 4, 6, .inr (.inr (.inr (.inr sf)))))]) ⟨rfl, rfl⟩ (zk_rv (As := []) (rest := []) (q0 := 4) (ci := 4) Z ((ct_X4_holdsNothing l D g τ so si sort len rel ) H.size) hK hT hA G [4] rfl (by decide) rfl rfl gX7_taken_X4_holdsNothing rfl dvX4_holdsNothing ⟨by decide, by decide⟩ rfl hl.1 rfl (Nat.le_of_ble_eq_true rfl) dX7_taken_24 ⟨Nat.zero_le _, Nat.zero_le _⟩) hA G [4] [0, 1, 2, 3] [0, 1, 2, 3, 4] rfl rfl (by decide) (by decide) (by decide) (fun _ => rfl) (fun r_24 _ H locs w_24 G => ?_)
    obtain rfl : r_24 = zk_b (zh_non sort rel) := w_24
    refine lv_if_eq (tgt := 33) Z.1 Z.2.1 dX7_taken_27 (by decide) (fun c27 => ?_) (fun c27 => ?_)
    · have c27 : (zh_non sort rel) = false := zk_b0.mp c27
      refine lv_aload_n Z.1 Z.2.1 dX7_taken_33 rfl (lv_at hl 0 rfl) ?_
      refine zk_ci (WF := fun (_ : Unit) => [(a 0, .inr (7, [.ref (a 1), .ref (a 2), .ref (a 3), .ref (a 4), .ref (a 50), .ref (a 60), .ref (a 7), .ref (a 8), .int (zk_b pic), .int (nI storm), .int chance])), (a 7, .inr (3, [.int (nI zr), .int (nI rn), .ref (a 70), .ref (a 71), .int nb])), (a 71, .inl (g 0, 50, .inl (fun i => nI (KD i)))), (a 8, .inl (g 4, 6, .inr (.inr (.inr (.inr sf))))), (so, .inr (4, [.ref si, .int sort, .int (nI len), .int rel]))]) (wr := [(a 0, .inr (7, [.ref (a 1), .ref (a 2), .ref (a 3), .ref (a 4), .ref (a 50), .ref (a 60), .ref (a 7), .ref (a 8), .int (zk_b pic), .int (nI storm), .int chance])), (a 7, .inr (3, [.int (nI zr), .int (nI rn), .ref (a 70), .ref (a 71), .int nb])), (a 71, .inl (g 0, 50, .inl (fun i => nI (KD i)))), (a 8, .inl (g 4, 6, .inr (.inr (.inr (.inr sf)))))]) ⟨rfl, rfl⟩ (zk_rv (As := []) (rest := []) (q0 := 4) (ci := 4) Z ((ct_X4_holdsRow l D g τ so si sort len rel ) H.size) hK hT hA G [4] rfl (by decide) rfl rfl gX7_taken_X4_holdsRow rfl dvX4_holdsRow ⟨by decide, by decide⟩ rfl hl.1 rfl (Nat.le_of_ble_eq_true rfl) dX7_taken_34 ⟨Nat.zero_le _, Nat.zero_le _⟩) hA G [4] [0, 1, 2, 3] [0, 1, 2, 3, 4] rfl rfl (by decide) (by decide) (by decide) (fun _ => rfl) (fun r_34 _ H locs w_34 G => ?_)
      obtain rfl : r_34 = zk_b (decide (¬ sort < 0)) := w_34
      refine lv_if_eq (tgt := 43) Z.1 Z.2.1 dX7_taken_37 (by decide) (fun c37 => ?_) (fun c37 => ?_)
      · have c37 : (decide (¬ sort < 0)) = false := zk_b0.mp c37
        refine lv_aload_n Z.1 Z.2.1 dX7_taken_43 rfl (lv_at hl 1 rfl) ?_
        refine zk_get (C := RX7) (T := TX7) (N := 11) (ci := 7) Z hK G hinX7 0 rfl rfl 6 (by decide) (List.mem_of_getElem? (i := 2) rfl) rfl (v := .ref (a 7)) rfl dX7_taken_44 ?_
        refine lv_aload_n Z.1 Z.2.1 dX7_taken_47 rfl (lv_at hl 0 rfl) ?_
        refine zk_get (C := RX4) (T := TX4) (N := 4) (ci := 4) Z hK G hinX4 4 rfl rfl 3 (by decide) (List.mem_of_getElem? (i := 3) rfl) rfl (v := .int rel) rfl dX7_taken_48 ?_
        refine zk_ci (WF := fun (_ : Unit) => [(a 0, .inr (7, [.ref (a 1), .ref (a 2), .ref (a 3), .ref (a 4), .ref (a 50), .ref (a 60), .ref (a 7), .ref (a 8), .int (zk_b pic), .int (nI storm), .int chance])), (a 7, .inr (3, [.int (nI zr), .int (nI rn), .ref (a 70), .ref (a 71), .int nb])), (a 71, .inl (g 0, 50, .inl (fun i => nI (KD i)))), (a 8, .inl (g 4, 6, .inr (.inr (.inr (.inr sf))))), (so, .inr (4, [.ref si, .int sort, .int (nI len), .int rel]))]) (wr := [(a 0, .inr (7, [.ref (a 1), .ref (a 2), .ref (a 3), .ref (a 4), .ref (a 50), .ref (a 60), .ref (a 7), .ref (a 8), .int (zk_b pic), .int (nI storm), .int chance])), (a 8, .inl (g 4, 6, .inr (.inr (.inr (.inr sf))))), (so, .inr (4, [.ref si, .int sort, .int (nI len), .int rel]))]) ⟨rfl, rfl⟩ (zk_rv (As := [.int rel]) (rest := []) (q0 := 1) (ci := 3) Z ((ct_X3_kindOf l D g τ a zr rn nb (fun _ => 0) KD rel (by exact hz)) H.size) hK hT hA G [1, 2] rfl (by decide) rfl rfl gX7_taken_X3_kindOf rfl dvX3_kindOf ⟨by decide, by decide⟩ rfl hl.1 rfl (Nat.le_of_ble_eq_true rfl) dX7_taken_51 ⟨Nat.zero_le _, Nat.zero_le _⟩) hA G [1, 2] [0, 3, 4] [0, 3, 4, 1, 2] rfl rfl (by decide) (by decide) (by decide) (fun _ => rfl) (fun r_51 _ H locs w_51 G => ?_)
        obtain rfl : r_51 = zr_kindOf zr KD rel := w_51
        refine lv_istore (lv' := [(4, .int (zr_kindOf zr KD rel)), (3, .ref so), (0, .ref (a 0)), (1, .int (nI d)), (2, .int y)]) Z.1 Z.2.1 dX7_taken_54 hl (by decide) rfl (fun ls hl => ?_)
        refine lv_iload Z.1 Z.2.1 dX7_taken_56 (lv_at hl 0 rfl) ?_
        refine lv_iload_n Z.1 Z.2.1 dX7_taken_58 rfl (lv_at hl 4 rfl) ?_
        refine zk_ci (WF := fun (_ : Unit) => [(a 0, .inr (7, [.ref (a 1), .ref (a 2), .ref (a 3), .ref (a 4), .ref (a 50), .ref (a 60), .ref (a 7), .ref (a 8), .int (zk_b pic), .int (nI storm), .int chance])), (a 7, .inr (3, [.int (nI zr), .int (nI rn), .ref (a 70), .ref (a 71), .int nb])), (a 71, .inl (g 0, 50, .inl (fun i => nI (KD i)))), (a 8, .inl (g 4, 6, .inr (.inr (.inr (.inr sf))))), (so, .inr (4, [.ref si, .int sort, .int (nI len), .int rel]))]) (wr := [(a 0, .inr (7, [.ref (a 1), .ref (a 2), .ref (a 3), .ref (a 4), .ref (a 50), .ref (a 60), .ref (a 7), .ref (a 8), .int (zk_b pic), .int (nI storm), .int chance])), (a 7, .inr (3, [.int (nI zr), .int (nI rn), .ref (a 70), .ref (a 71), .int nb])), (a 71, .inl (g 0, 50, .inl (fun i => nI (KD i)))), (a 8, .inl (g 4, 6, .inr (.inr (.inr (.inr sf))))), (so, .inr (4, [.ref si, .int sort, .int (nI len), .int rel]))]) ⟨rfl, rfl⟩ (zk_rs (As := [.int (zr_kindOf zr KD rel), .int y]) (rest := []) Z ((ct_X3_isUnder l D g τ (zr_kindOf zr KD rel) y ) H.size) hK hT hA G [] rfl (by decide) gX7_taken_X3_isUnder rfl dvX3_isUnder ⟨by decide, by decide⟩ rfl hl.1 rfl (Nat.le_of_ble_eq_true rfl) dX7_taken_59 ⟨Nat.zero_le _, Nat.zero_le _⟩) hA G [] [0, 1, 2, 3, 4] [0, 1, 2, 3, 4] rfl rfl (by decide) (by decide) (by decide) (fun _ => rfl) (fun r_59 _ H locs w_59 G => ?_)
        obtain rfl : r_59 = zk_b (zr_under 8 (zr_kindOf zr KD rel) y) := w_59
        refine lv_if_eq (tgt := 70) Z.1 Z.2.1 dX7_taken_62 (by decide) (fun c62 => ?_) (fun c62 => ?_)
        · have c62 : (zr_under 8 (zr_kindOf zr KD rel) y) = false := zk_b0.mp c62
          refine lv_bipush (v := (-12)) Z.1 Z.2.1 dX7_taken_70 (by decide +kernel) ?_
          exact zk_reti Z hR_ hlk hK hQ G () (by unfold zh_taken; rw [c4_0, c11_0, if_pos (by rfl), c27, c37, c62]; rfl) rfl dX7_taken_72
        have c62 : (zr_under 8 (zr_kindOf zr KD rel) y) = true := zk_b1.mp c62
        refine lv_iload Z.1 Z.2.1 dX7_taken_65 (lv_at hl 0 rfl) ?_
        refine lv_goto (tgt := 72) Z.1 Z.2.1 dX7_taken_67 (by decide) ?_
        exact zk_reti Z hR_ hlk hK hQ G () (by unfold zh_taken; rw [c4_0, c11_0, if_pos (by rfl), c27, c37, c62]; rfl) rfl dX7_taken_72
      have c37 : (decide (¬ sort < 0)) = true := zk_b1.mp c37
      refine lv_bipush (v := (-12)) Z.1 Z.2.1 dX7_taken_40 (by decide +kernel) ?_
      exact zk_reti Z hR_ hlk hK hQ G () (by unfold zh_taken; rw [c4_0, c11_0, if_pos (by rfl), c27, c37]; rfl) rfl dX7_taken_42
    have c27 : (zh_non sort rel) = true := zk_b1.mp c27
    refine lv_bipush (v := (-11)) Z.1 Z.2.1 dX7_taken_30 (by decide +kernel) ?_
    exact zk_reti Z hR_ hlk hK hQ G () (by unfold zh_taken; rw [c4_0, c11_0, if_pos (by rfl), c27]; rfl) rfl dX7_taken_32
  have c11 : (zr_kind y) = false := zk_b0.mp c11
  refine lv_iconst (v := (-1)) Z.1 Z.2.1 dX7_taken_14 (by decide +kernel) ?_
  exact zk_reti Z hR_ hlk hK hQ G () (by unfold zh_taken; rw [c11, Bool.and_false]; rfl) rfl dX7_taken_15

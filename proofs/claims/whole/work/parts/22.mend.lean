/-! Mending: what may be told anew, what it was. -/
def zu_told (P S Q : Nat → Nat) (hide storm i : Nat) (what : Int32) : Int32 := if what = nI 0 then nI (P i) else if what = nI 1 then nI (S i) else if what = nI 2 then nI (Q i) else if what = nI 3 then nI hide else nI storm
def zu_mendable (n : Nat) (number what : Int32) : Bool := if what = 3 ∨ what = 4 then decide (number = 0) else decide (¬ what < 0) && decide (¬ 3 ≤ what) && zb_w n number
def zu_fit (P : Nat → Nat) (i : Nat) (what v : Int32) : Bool :=
  if what = nI 0 then decide (¬ v < 1) && decide (¬ 12 < v) else if what = nI 1 then decide (¬ v < 0) && decide (¬ nI (P i) ≤ v) else if what = nI 2 then decide (¬ v < 1) && decide (¬ 9 < v)
  else if what = nI 3 then decide (¬ v < 0) && decide (¬ 180 < v) else decide (¬ v < 0) && decide (¬ 12 ≤ v)
def zu_ofW (n : Nat) (P : Nat → Nat) (hide storm now : Nat) (what : Int32) : Int32 := if what = nI 20 then nI hide else if what = nI 21 then nI storm else if what = nI 22 then nI now else if what = nI 23 then nI (zs_rnd P n) else (-1)
def zu_toldN (P S Q : Nat → Nat) (hide storm i k : Nat) : Nat := if k = 0 then P i else if k = 1 then S i else if k = 2 then Q i else if k = 3 then hide else storm
theorem zu_told_n {P S Q : Nat → Nat} {hide storm i k : Nat} (hk : k < 2 ^ 31) : zu_told P S Q hide storm i (nI k) = nI (zu_toldN P S Q hide storm i k) := by
  unfold zu_told zu_toldN
  simp only [nI_eq hk (show 0 < 2 ^ 31 by decide), nI_eq hk (show 1 < 2 ^ 31 by decide), nI_eq hk (show 2 < 2 ^ 31 by decide), nI_eq hk (show 3 < 2 ^ 31 by decide)]
  repeat' split
  all_goals rfl
theorem zu_mendable_ex {n : Nat} (hn : n ≤ 7) {number what : Int32} (h : zu_mendable n number what = true) : ∃ i k : Nat, i < 7 ∧ k ≤ 4 ∧ number = nI i ∧ what = nI k ∧ (3 ≤ k → i = 0) ∧ (k < 3 → i < n) := by
  unfold zu_mendable at h
  split at h
  · rename_i q
    have e := of_decide_eq_true h
    subst e
    rcases q with rfl | rfl
    · exact ⟨0, 3, by decide, by decide, rfl, rfl, fun _ => rfl, fun q => absurd q (by decide)⟩
    · exact ⟨0, 4, by decide, by decide, rfl, rfl, fun _ => rfl, fun q => absurd q (by decide)⟩
  · simp only [Bool.and_eq_true, decide_eq_true_eq] at h
    obtain ⟨⟨h1, h2⟩, h3⟩ := h
    obtain ⟨k, hk, rfl⟩ := nI_of h1
    obtain ⟨i, hi, rfl, hin⟩ := zb_w_ex h3
    have h4 : k < 3 := zk_nle (a := 3) (by decide) hk h2
    exact ⟨i, k, by omega, by omega, rfl, rfl, fun q => by omega, fun _ => hin⟩
theorem zb_n1 {x : Int32} (h : ¬ x < 1) : ¬ x < 0 := by
  rw [zb_lt] at h ⊢
  have e0 : (0 : Int32).toInt = 0 := by decide
  have e1 : (1 : Int32).toInt = 1 := by decide
  omega
theorem zu_fit_ex {P : Nat → Nat} {i k : Nat} {v : Int32} (hP : k = 1 → P i ≤ 12) (hk : k ≤ 4) (h : zu_fit P i (nI k) v = true) : ∃ x : Nat, v = nI x ∧ x ≤ 180 ∧ (k = 0 → 1 ≤ x ∧ x ≤ 12) ∧ (k = 1 → x < P i) ∧ (k = 2 → 1 ≤ x ∧ x ≤ 9) ∧ (k = 4 → x < 12) := by
  have c : k = 0 ∨ k = 1 ∨ k = 2 ∨ k = 3 ∨ k = 4 := by omega
  rcases c with rfl | rfl | rfl | rfl | rfl
  · have h' : (decide (¬ v < 1) && decide (¬ 12 < v)) = true := h
    simp only [Bool.and_eq_true, decide_eq_true_eq] at h'
    obtain ⟨x, hx, rfl⟩ := nI_of (zb_n1 h'.1)
    have h1 : 1 ≤ x := zk_nlt (b := 1) hx (by decide) h'.1
    have h2 : x ≤ 12 := zk_nlt (a := 12) (by decide) hx h'.2
    exact ⟨x, rfl, by omega, fun _ => ⟨h1, h2⟩, fun q => by omega, fun q => by omega, fun q => by omega⟩
  · have h' : (decide (¬ v < 0) && decide (¬ nI (P i) ≤ v)) = true := h
    simp only [Bool.and_eq_true, decide_eq_true_eq] at h'
    obtain ⟨x, hx, rfl⟩ := nI_of h'.1
    have hp := hP rfl
    have h2 : x < P i := zk_nle (by omega) hx h'.2
    exact ⟨x, rfl, by omega, fun q => by omega, fun _ => h2, fun q => by omega, fun q => by omega⟩
  · have h' : (decide (¬ v < 1) && decide (¬ 9 < v)) = true := h
    simp only [Bool.and_eq_true, decide_eq_true_eq] at h'
    obtain ⟨x, hx, rfl⟩ := nI_of (zb_n1 h'.1)
    have h1 : 1 ≤ x := zk_nlt (b := 1) hx (by decide) h'.1
    have h2 : x ≤ 9 := zk_nlt (a := 9) (by decide) hx h'.2
    exact ⟨x, rfl, by omega, fun q => by omega, fun q => by omega, fun _ => ⟨h1, h2⟩, fun q => by omega⟩
  · have h' : (decide (¬ v < 0) && decide (¬ 180 < v)) = true := h
    simp only [Bool.and_eq_true, decide_eq_true_eq] at h'
    obtain ⟨x, hx, rfl⟩ := nI_of h'.1
    have h2 : x ≤ 180 := zk_nlt (a := 180) (by decide) hx h'.2
    exact ⟨x, rfl, by omega, fun q => by omega, fun q => by omega, fun q => by omega, fun q => by omega⟩
  · have h' : (decide (¬ v < 0) && decide (¬ 12 ≤ v)) = true := h
    simp only [Bool.and_eq_true, decide_eq_true_eq] at h'
    obtain ⟨x, hx, rfl⟩ := nI_of h'.1
    have h2 : x < 12 := zk_nle (a := 12) (by decide) hx h'.2
    exact ⟨x, rfl, by omega, fun q => by omega, fun q => by omega, fun q => by omega, fun q => h2⟩
theorem zu_toldN_le {P S Q : Nat → Nat} {hide storm y k n : Nat} (hn : k < 3 → y < n) (hW : zs_W n P S) (hq : ∀ x, x < n → Q x ≤ 9) (hh : hide ≤ 180) (hs : storm ≤ 12) : zu_toldN P S Q hide storm y k ≤ 180 := by
  unfold zu_toldN
  split
  · have := hW.2 y (hn (by omega)); omega
  · split
    · have := hW.2 y (hn (by omega)); omega
    · split
      · have := hq y (hn (by omega)); omega
      · split <;> omega
def zu_mend (n : Nat) (P S Q : Nat → Nat) (hide storm : Nat) (number what v : Int32) : Int32 := if (zu_mendable n number what && zu_fit P number.toInt.toNat what v) = true then zu_told P S Q hide storm number.toInt.toNat what else (-1)
def zu_chg (n : Nat) (P S Q : Nat → Nat) (hide storm : Nat) (number what v : Int32) : Bool := (zu_mendable n number what && zu_fit P number.toInt.toNat what v) && decide (¬ zu_told P S Q hide storm number.toInt.toNat what = v)
def zu_world (n : Nat) (ps ring : Int32) : Int32 := if zt_wok ps ring = true then (if 6 ≤ n then (-3) else nI n) else (-1)

abbrev rm_X7_told : Room := { frames := 0, cells := 0, slots := 0, locals := 0 }
theorem dvX7_told : zk_dv yX7_told RX7 2 := by decide +kernel
set_option maxRecDepth 100000 in
set_option maxHeartbeats 4000000 in
theorem ct_X7_told (l : Launch) (D : va_G) (g : Nat → ClassId) (τ : Nat → Nat) (a : Nat → Nat) (pic : Bool) (storm : Nat) (chance : Int32) (n : Nat) (hide : Nat) (ver : Nat) (ew : Int32) (ek : Bool) (P : Nat → Nat) (S : Nat → Nat) (Q : Nat → Nat) (i : Nat) (what : Int32) (hi : i < 7) : zk_MI l D g τ yX7_told wsX7_told rm_X7_told [.ref (a 0), .int (nI i), .int what] [(a 0, .inr (7, [.ref (a 1), .ref (a 2), .ref (a 3), .ref (a 4), .ref (a 50), .ref (a 60), .ref (a 7), .ref (a 8), .int (zk_b pic), .int (nI storm), .int chance])), (a 2, .inr (5, [.ref (a 20), .ref (a 21), .ref (a 22), .int (nI n), .int (nI hide), .ref (a 1), .ref (a 23), .ref (a 24), .int (nI ver), .int ew, .int (zk_b ek)])), (a 20, .inl (g 0, 7, .inl (fun i => nI (P i)))), (a 21, .inl (g 0, 7, .inl (fun i => nI (S i)))), (a 22, .inl (g 0, 7, .inl (fun i => nI (Q i))))] (fun (r : Int32) (_ : Unit) => r = zu_told P S Q hide storm i what) (fun (_ : Unit) => [(a 0, .inr (7, [.ref (a 1), .ref (a 2), .ref (a 3), .ref (a 4), .ref (a 50), .ref (a 60), .ref (a 7), .ref (a 8), .int (zk_b pic), .int (nI storm), .int chance])), (a 2, .inr (5, [.ref (a 20), .ref (a 21), .ref (a 22), .int (nI n), .int (nI hide), .ref (a 1), .ref (a 23), .ref (a 24), .int (nI ver), .int ew, .int (zk_b ek)])), (a 20, .inl (g 0, 7, .inl (fun i => nI (P i)))), (a 21, .inl (g 0, 7, .inl (fun i => nI (S i)))), (a 22, .inl (g 0, 7, .inl (fun i => nI (Q i))))]) := by
  refine zk_of (Qc := fun A => va_Qi (fun (r : Int32) (_ : Unit) => r = zu_told P S Q hide storm i what) (zk_B D g A (fun (_ : Unit) => [(a 0, .inr (7, [.ref (a 1), .ref (a 2), .ref (a 3), .ref (a 4), .ref (a 50), .ref (a 60), .ref (a 7), .ref (a 8), .int (zk_b pic), .int (nI storm), .int chance])), (a 2, .inr (5, [.ref (a 20), .ref (a 21), .ref (a 22), .int (nI n), .int (nI hide), .ref (a 1), .ref (a 23), .ref (a 24), .int (nI ver), .int ew, .int (zk_b ek)])), (a 20, .inl (g 0, 7, .inl (fun i => nI (P i)))), (a 21, .inl (g 0, 7, .inl (fun i => nI (S i)))), (a 22, .inl (g 0, 7, .inl (fun i => nI (Q i))))])) A) (cc := cX7_told) (maxL := 3) (ret := (some .int)) (own := RX7) (by decide) rfl rfl (Nat.le_of_ble_eq_true rfl) ?_
  intro pP eE sS mM args below meth cC aA ls qQ Z hR_ hlk hnm hK hT hA hQ G hl
  have hinX5 : ∀ w ∈ u_ws RX5 TX5 11, w ∈ wsX7_told := (fun _ h => List.mem_cons_of_mem _ (List.mem_append_right _ h))
  have hinX7 : ∀ w ∈ u_ws RX7 TX7 11, w ∈ wsX7_told := (fun _ h => List.mem_cons_of_mem _ (List.mem_append_left _ (List.mem_append_right _ h)))
  refine lv_iload_n Z.1 Z.2.1 dX7_told_0 rfl (lv_at hl 2 rfl) ?_
  by_cases c1_0 : what = nI 0
  · subst c1_0
    refine lv_tableIn (tgt := 32) Z.1 Z.2.1 dX7_told_1 (by decide) (by decide) (by rfl) (by decide) ?_
    refine lv_aload_n Z.1 Z.2.1 dX7_told_32 rfl (lv_at hl 0 rfl) ?_
    refine zk_get (C := RX7) (T := TX7) (N := 11) (ci := 7) Z hK G hinX7 0 rfl rfl 1 (by decide) (List.mem_of_getElem? (i := 1) rfl) rfl (v := .ref (a 2)) rfl dX7_told_33 ?_
    refine zk_get (C := RX5) (T := TX5) (N := 11) (ci := 5) Z hK G hinX5 1 rfl rfl 0 (by decide) (List.mem_of_getElem? (i := 2) rfl) rfl (v := .ref (a 20)) rfl dX7_told_36 ?_
    refine lv_iload_n Z.1 Z.2.1 dX7_told_39 rfl (lv_at hl 1 rfl) ?_
    refine zk_iald Z hK G 2 rfl (k := i) (by omega) (by decide) (v := nI (P i)) rfl dX7_told_40 ?_
    exact zk_reti Z hR_ hlk hK hQ G () (by unfold zu_told; rw [if_pos rfl]) rfl dX7_told_41
  by_cases c1_1 : what = nI 1
  · subst c1_1
    refine lv_tableIn (tgt := 42) Z.1 Z.2.1 dX7_told_1 (by decide) (by decide) (by rfl) (by decide) ?_
    refine lv_aload_n Z.1 Z.2.1 dX7_told_42 rfl (lv_at hl 0 rfl) ?_
    refine zk_get (C := RX7) (T := TX7) (N := 11) (ci := 7) Z hK G hinX7 0 rfl rfl 1 (by decide) (List.mem_of_getElem? (i := 1) rfl) rfl (v := .ref (a 2)) rfl dX7_told_43 ?_
    refine zk_get (C := RX5) (T := TX5) (N := 11) (ci := 5) Z hK G hinX5 1 rfl rfl 1 (by decide) (List.mem_of_getElem? (i := 3) rfl) rfl (v := .ref (a 21)) rfl dX7_told_46 ?_
    refine lv_iload_n Z.1 Z.2.1 dX7_told_49 rfl (lv_at hl 1 rfl) ?_
    refine zk_iald Z hK G 3 rfl (k := i) (by omega) (by decide) (v := nI (S i)) rfl dX7_told_50 ?_
    exact zk_reti Z hR_ hlk hK hQ G () (by unfold zu_told; rw [if_neg (by decide), if_pos rfl]) rfl dX7_told_51
  by_cases c1_2 : what = nI 2
  · subst c1_2
    refine lv_tableIn (tgt := 52) Z.1 Z.2.1 dX7_told_1 (by decide) (by decide) (by rfl) (by decide) ?_
    refine lv_aload_n Z.1 Z.2.1 dX7_told_52 rfl (lv_at hl 0 rfl) ?_
    refine zk_get (C := RX7) (T := TX7) (N := 11) (ci := 7) Z hK G hinX7 0 rfl rfl 1 (by decide) (List.mem_of_getElem? (i := 1) rfl) rfl (v := .ref (a 2)) rfl dX7_told_53 ?_
    refine zk_get (C := RX5) (T := TX5) (N := 11) (ci := 5) Z hK G hinX5 1 rfl rfl 2 (by decide) (List.mem_of_getElem? (i := 4) rfl) rfl (v := .ref (a 22)) rfl dX7_told_56 ?_
    refine lv_iload_n Z.1 Z.2.1 dX7_told_59 rfl (lv_at hl 1 rfl) ?_
    refine zk_iald Z hK G 4 rfl (k := i) (by omega) (by decide) (v := nI (Q i)) rfl dX7_told_60 ?_
    exact zk_reti Z hR_ hlk hK hQ G () (by unfold zu_told; rw [if_neg (by decide), if_neg (by decide), if_pos rfl]) rfl dX7_told_61
  by_cases c1_3 : what = nI 3
  · subst c1_3
    refine lv_tableIn (tgt := 62) Z.1 Z.2.1 dX7_told_1 (by decide) (by decide) (by rfl) (by decide) ?_
    refine lv_aload_n Z.1 Z.2.1 dX7_told_62 rfl (lv_at hl 0 rfl) ?_
    refine zk_get (C := RX7) (T := TX7) (N := 11) (ci := 7) Z hK G hinX7 0 rfl rfl 1 (by decide) (List.mem_of_getElem? (i := 1) rfl) rfl (v := .ref (a 2)) rfl dX7_told_63 ?_
    refine zk_get (C := RX5) (T := TX5) (N := 11) (ci := 5) Z hK G hinX5 1 rfl rfl 4 (by decide) (List.mem_of_getElem? (i := 5) rfl) rfl (v := .int (nI hide)) rfl dX7_told_66 ?_
    exact zk_reti Z hR_ hlk hK hQ G () (by unfold zu_told; rw [if_neg (by decide), if_neg (by decide), if_neg (by decide), if_pos rfl]) rfl dX7_told_69
  have c1_0' : ¬ what.toInt = 0 := lv_neT c1_0 (by decide)
  have c1_1' : ¬ what.toInt = 1 := lv_neT c1_1 (by decide)
  have c1_2' : ¬ what.toInt = 2 := lv_neT c1_2 (by decide)
  have c1_3' : ¬ what.toInt = 3 := lv_neT c1_3 (by decide)
  refine lv_tableOut (tgt := 70) Z.1 Z.2.1 dX7_told_1 (by omega) (by decide) ?_
  refine lv_aload_n Z.1 Z.2.1 dX7_told_70 rfl (lv_at hl 0 rfl) ?_
  refine zk_get (C := RX7) (T := TX7) (N := 11) (ci := 7) Z hK G hinX7 0 rfl rfl 9 (by decide) (List.mem_of_getElem? (i := 6) rfl) rfl (v := .int (nI storm)) rfl dX7_told_71 ?_
  exact zk_reti Z hR_ hlk hK hQ G () (by unfold zu_told; rw [if_neg c1_0, if_neg c1_1, if_neg c1_2, if_neg c1_3]) rfl dX7_told_74

abbrev rm_X7_isMendable : Room := { frames := 1, cells := 0, slots := 0, locals := 21 }
theorem dvX7_isMendable : zk_dv yX7_isMendable RX7 2 := by decide +kernel
set_option maxRecDepth 100000 in
set_option maxHeartbeats 4000000 in
theorem ct_X7_isMendable (l : Launch) (D : va_G) (g : Nat → ClassId) (τ : Nat → Nat) (a : Nat → Nat) (pic : Bool) (storm : Nat) (chance : Int32) (n : Nat) (hide : Nat) (ver : Nat) (ew : Int32) (ek : Bool) (number : Int32) (what : Int32) (hn : n ≤ 7) : zk_MI l D g τ yX7_isMendable wsX7_isMendable rm_X7_isMendable [.ref (a 0), .int number, .int what] [(a 0, .inr (7, [.ref (a 1), .ref (a 2), .ref (a 3), .ref (a 4), .ref (a 50), .ref (a 60), .ref (a 7), .ref (a 8), .int (zk_b pic), .int (nI storm), .int chance])), (a 2, .inr (5, [.ref (a 20), .ref (a 21), .ref (a 22), .int (nI n), .int (nI hide), .ref (a 1), .ref (a 23), .ref (a 24), .int (nI ver), .int ew, .int (zk_b ek)]))] (fun (r : Int32) (_ : Unit) => r = zk_b (zu_mendable n number what)) (fun (_ : Unit) => [(a 0, .inr (7, [.ref (a 1), .ref (a 2), .ref (a 3), .ref (a 4), .ref (a 50), .ref (a 60), .ref (a 7), .ref (a 8), .int (zk_b pic), .int (nI storm), .int chance])), (a 2, .inr (5, [.ref (a 20), .ref (a 21), .ref (a 22), .int (nI n), .int (nI hide), .ref (a 1), .ref (a 23), .ref (a 24), .int (nI ver), .int ew, .int (zk_b ek)]))]) := by
  refine zk_of (Qc := fun A => va_Qi (fun (r : Int32) (_ : Unit) => r = zk_b (zu_mendable n number what)) (zk_B D g A (fun (_ : Unit) => [(a 0, .inr (7, [.ref (a 1), .ref (a 2), .ref (a 3), .ref (a 4), .ref (a 50), .ref (a 60), .ref (a 7), .ref (a 8), .int (zk_b pic), .int (nI storm), .int chance])), (a 2, .inr (5, [.ref (a 20), .ref (a 21), .ref (a 22), .int (nI n), .int (nI hide), .ref (a 1), .ref (a 23), .ref (a 24), .int (nI ver), .int ew, .int (zk_b ek)]))])) A) (cc := cX7_isMendable) (maxL := 3) (ret := (some .boolean)) (own := RX7) (by decide) rfl rfl (Nat.le_of_ble_eq_true rfl) ?_
  intro pP eE sS mM args below meth cC aA ls qQ Z hR_ hlk hnm hK hT hA hQ G hl
  refine lv_iload_n Z.1 Z.2.1 dX7_isMendable_0 rfl (lv_at hl 2 rfl) ?_
  refine lv_iconst (v := nI 3) Z.1 Z.2.1 dX7_isMendable_1 (by decide +kernel) ?_
  refine lv_icmp_eq (tgt := 10) Z.1 Z.2.1 dX7_isMendable_2 (by decide) (fun c2 => ?_) (fun c2 => ?_)
  · have c2 : what = 3 := c2
    refine lv_iload_n Z.1 Z.2.1 dX7_isMendable_10 rfl (lv_at hl 1 rfl) ?_
    refine lv_if_ne (tgt := 18) Z.1 Z.2.1 dX7_isMendable_11 (by decide) (fun c11 => ?_) (fun c11 => ?_)
    · have c11 : ¬ number = 0 := c11
      refine lv_iconst (v := nI 0) Z.1 Z.2.1 dX7_isMendable_18 (by decide +kernel) ?_
      refine W.eq (g2 := F0 mM 19 ls [.int (zk_b false)]) rfl ?_
      exact zk_retz Z hR_ hlk hK hQ G () (congrArg zk_b (by simp only [zu_mendable]; simp [c2, c11])) rfl dX7_isMendable_19
    have c11 : number = 0 := c11
    refine lv_iconst (v := nI 1) Z.1 Z.2.1 dX7_isMendable_14 (by decide +kernel) ?_
    refine lv_goto (tgt := 19) Z.1 Z.2.1 dX7_isMendable_15 (by decide) ?_
    refine W.eq (g2 := F0 mM 19 ls [.int (zk_b true)]) rfl ?_
    exact zk_retz Z hR_ hlk hK hQ G () (congrArg zk_b (by simp only [zu_mendable]; simp [c2, c11])) rfl dX7_isMendable_19
  have c2 : ¬ what = 3 := c2
  refine lv_iload_n Z.1 Z.2.1 dX7_isMendable_5 rfl (lv_at hl 2 rfl) ?_
  refine lv_iconst (v := nI 4) Z.1 Z.2.1 dX7_isMendable_6 (by decide +kernel) ?_
  refine lv_icmp_ne (tgt := 20) Z.1 Z.2.1 dX7_isMendable_7 (by decide) (fun c7 => ?_) (fun c7 => ?_)
  · have c7 : ¬ what = 4 := c7
    refine lv_iload_n Z.1 Z.2.1 dX7_isMendable_20 rfl (lv_at hl 2 rfl) ?_
    refine lv_if_lt (tgt := 41) Z.1 Z.2.1 dX7_isMendable_21 (by decide) (fun c21 => ?_) (fun c21 => ?_)
    · have c21 : what < 0 := c21
      refine lv_iconst (v := nI 0) Z.1 Z.2.1 dX7_isMendable_41 (by decide +kernel) ?_
      refine W.eq (g2 := F0 mM 42 ls [.int (zk_b false)]) rfl ?_
      exact zk_retz Z hR_ hlk hK hQ G () (congrArg zk_b (by simp only [zu_mendable]; simp [c2, c7, c21])) rfl dX7_isMendable_42
    have c21 : ¬ what < 0 := c21
    refine lv_iload_n Z.1 Z.2.1 dX7_isMendable_24 rfl (lv_at hl 2 rfl) ?_
    refine lv_iconst (v := nI 3) Z.1 Z.2.1 dX7_isMendable_25 (by decide +kernel) ?_
    refine lv_icmp_ge (tgt := 41) Z.1 Z.2.1 dX7_isMendable_26 (by decide) (fun c26 => ?_) (fun c26 => ?_)
    · have c26 : 3 ≤ what := c26
      refine lv_iconst (v := nI 0) Z.1 Z.2.1 dX7_isMendable_41 (by decide +kernel) ?_
      refine W.eq (g2 := F0 mM 42 ls [.int (zk_b false)]) rfl ?_
      exact zk_retz Z hR_ hlk hK hQ G () (congrArg zk_b (by simp only [zu_mendable]; simp [c2, c7, c21, c26])) rfl dX7_isMendable_42
    have c26 : ¬ 3 ≤ what := c26
    refine lv_aload_n Z.1 Z.2.1 dX7_isMendable_29 rfl (lv_at hl 0 rfl) ?_
    refine lv_iload_n Z.1 Z.2.1 dX7_isMendable_30 rfl (lv_at hl 1 rfl) ?_
    refine zk_ci (WF := fun (_ : Unit) => [(a 0, .inr (7, [.ref (a 1), .ref (a 2), .ref (a 3), .ref (a 4), .ref (a 50), .ref (a 60), .ref (a 7), .ref (a 8), .int (zk_b pic), .int (nI storm), .int chance])), (a 2, .inr (5, [.ref (a 20), .ref (a 21), .ref (a 22), .int (nI n), .int (nI hide), .ref (a 1), .ref (a 23), .ref (a 24), .int (nI ver), .int ew, .int (zk_b ek)]))]) (wr := []) ⟨rfl, rfl⟩ (zk_rv (As := [.int number]) (rest := []) (q0 := 0) (ci := 7) Z ((ct_X7_isWorldNumber l D g τ a pic storm chance n hide ver ew ek number (by omega)) sS.heap.size) hK hT hA G [0, 1] rfl (by decide) rfl rfl gX7_isMendable_X7_isWorldNumber rfl dvX7_isWorldNumber ⟨by decide, by decide⟩ rfl hl.1 rfl (Nat.le_of_ble_eq_true rfl) dX7_isMendable_31 ⟨Nat.zero_le _, Nat.zero_le _⟩) hA G [0, 1] [] [0, 1] rfl rfl (by decide) (by decide) (by decide) (fun _ => rfl) (fun r_31 _ H locs w_31 G => ?_)
    obtain rfl : r_31 = zk_b (zb_w n number) := w_31
    refine lv_if_eq (tgt := 41) Z.1 Z.2.1 dX7_isMendable_34 (by decide) (fun c34 => ?_) (fun c34 => ?_)
    · have c34 : zb_w n number = false := zk_b0.mp c34
      refine lv_iconst (v := nI 0) Z.1 Z.2.1 dX7_isMendable_41 (by decide +kernel) ?_
      refine W.eq (g2 := F0 mM 42 ls [.int (zk_b false)]) rfl ?_
      exact zk_retz Z hR_ hlk hK hQ G () (congrArg zk_b (by simp only [zu_mendable]; simp [c2, c7, c21, c26, c34])) rfl dX7_isMendable_42
    have c34 : zb_w n number = true := zk_b1.mp c34
    refine lv_iconst (v := nI 1) Z.1 Z.2.1 dX7_isMendable_37 (by decide +kernel) ?_
    refine lv_goto (tgt := 42) Z.1 Z.2.1 dX7_isMendable_38 (by decide) ?_
    refine W.eq (g2 := F0 mM 42 ls [.int (zk_b true)]) rfl ?_
    exact zk_retz Z hR_ hlk hK hQ G () (congrArg zk_b (by simp only [zu_mendable]; simp [c2, c7, c21, c26, c34])) rfl dX7_isMendable_42
  have c7 : what = 4 := c7
  refine lv_iload_n Z.1 Z.2.1 dX7_isMendable_10 rfl (lv_at hl 1 rfl) ?_
  refine lv_if_ne (tgt := 18) Z.1 Z.2.1 dX7_isMendable_11 (by decide) (fun c11 => ?_) (fun c11 => ?_)
  · have c11 : ¬ number = 0 := c11
    refine lv_iconst (v := nI 0) Z.1 Z.2.1 dX7_isMendable_18 (by decide +kernel) ?_
    refine W.eq (g2 := F0 mM 19 ls [.int (zk_b false)]) rfl ?_
    exact zk_retz Z hR_ hlk hK hQ G () (congrArg zk_b (by simp only [zu_mendable]; simp [c2, c7, c11])) rfl dX7_isMendable_19
  have c11 : number = 0 := c11
  refine lv_iconst (v := nI 1) Z.1 Z.2.1 dX7_isMendable_14 (by decide +kernel) ?_
  refine lv_goto (tgt := 19) Z.1 Z.2.1 dX7_isMendable_15 (by decide) ?_
  refine W.eq (g2 := F0 mM 19 ls [.int (zk_b true)]) rfl ?_
  exact zk_retz Z hR_ hlk hK hQ G () (congrArg zk_b (by simp only [zu_mendable]; simp [c2, c7, c11])) rfl dX7_isMendable_19

abbrev rm_X7_isFit : Room := { frames := 0, cells := 0, slots := 0, locals := 0 }
theorem dvX7_isFit : zk_dv yX7_isFit RX7 3 := by decide +kernel
set_option maxRecDepth 100000 in
set_option maxHeartbeats 4000000 in
theorem ct_X7_isFit (l : Launch) (D : va_G) (g : Nat → ClassId) (τ : Nat → Nat) (a : Nat → Nat) (pic : Bool) (storm : Nat) (chance : Int32) (n : Nat) (hide : Nat) (ver : Nat) (ew : Int32) (ek : Bool) (P : Nat → Nat) (i : Nat) (what : Int32) (v : Int32) (hi : i < 7) : zk_MI l D g τ yX7_isFit wsX7_isFit rm_X7_isFit [.ref (a 0), .int (nI i), .int what, .int v] [(a 0, .inr (7, [.ref (a 1), .ref (a 2), .ref (a 3), .ref (a 4), .ref (a 50), .ref (a 60), .ref (a 7), .ref (a 8), .int (zk_b pic), .int (nI storm), .int chance])), (a 2, .inr (5, [.ref (a 20), .ref (a 21), .ref (a 22), .int (nI n), .int (nI hide), .ref (a 1), .ref (a 23), .ref (a 24), .int (nI ver), .int ew, .int (zk_b ek)])), (a 20, .inl (g 0, 7, .inl (fun i => nI (P i))))] (fun (r : Int32) (_ : Unit) => r = zk_b (zu_fit P i what v)) (fun (_ : Unit) => [(a 0, .inr (7, [.ref (a 1), .ref (a 2), .ref (a 3), .ref (a 4), .ref (a 50), .ref (a 60), .ref (a 7), .ref (a 8), .int (zk_b pic), .int (nI storm), .int chance])), (a 2, .inr (5, [.ref (a 20), .ref (a 21), .ref (a 22), .int (nI n), .int (nI hide), .ref (a 1), .ref (a 23), .ref (a 24), .int (nI ver), .int ew, .int (zk_b ek)])), (a 20, .inl (g 0, 7, .inl (fun i => nI (P i))))]) := by
  refine zk_of (Qc := fun A => va_Qi (fun (r : Int32) (_ : Unit) => r = zk_b (zu_fit P i what v)) (zk_B D g A (fun (_ : Unit) => [(a 0, .inr (7, [.ref (a 1), .ref (a 2), .ref (a 3), .ref (a 4), .ref (a 50), .ref (a 60), .ref (a 7), .ref (a 8), .int (zk_b pic), .int (nI storm), .int chance])), (a 2, .inr (5, [.ref (a 20), .ref (a 21), .ref (a 22), .int (nI n), .int (nI hide), .ref (a 1), .ref (a 23), .ref (a 24), .int (nI ver), .int ew, .int (zk_b ek)])), (a 20, .inl (g 0, 7, .inl (fun i => nI (P i))))])) A) (cc := cX7_isFit) (maxL := 4) (ret := (some .boolean)) (own := RX7) (by decide) rfl rfl (Nat.le_of_ble_eq_true rfl) ?_
  intro pP eE sS mM args below meth cC aA ls qQ Z hR_ hlk hnm hK hT hA hQ G hl
  have hinX5 : ∀ w ∈ u_ws RX5 TX5 11, w ∈ wsX7_isFit := (fun _ h => List.mem_cons_of_mem _ (List.mem_append_right _ h))
  have hinX7 : ∀ w ∈ u_ws RX7 TX7 11, w ∈ wsX7_isFit := (fun _ h => List.mem_cons_of_mem _ (List.mem_append_left _ (List.mem_append_right _ h)))
  refine lv_iload_n Z.1 Z.2.1 dX7_isFit_0 rfl (lv_at hl 2 rfl) ?_
  by_cases c1_0 : what = nI 0
  · subst c1_0
    refine lv_tableIn (tgt := 32) Z.1 Z.2.1 dX7_isFit_1 (by decide) (by decide) (by rfl) (by decide) ?_
    refine lv_iload_n Z.1 Z.2.1 dX7_isFit_32 rfl (lv_at hl 3 rfl) ?_
    refine lv_iconst (v := nI 1) Z.1 Z.2.1 dX7_isFit_33 (by decide +kernel) ?_
    refine lv_icmp_lt (tgt := 47) Z.1 Z.2.1 dX7_isFit_34 (by decide) (fun c34 => ?_) (fun c34 => ?_)
    · have c34 : v < 1 := c34
      refine lv_iconst (v := nI 0) Z.1 Z.2.1 dX7_isFit_47 (by decide +kernel) ?_
      refine W.eq (g2 := F0 mM 48 ls [.int (zk_b false)]) rfl ?_
      exact zk_retz Z hR_ hlk hK hQ G () (congrArg zk_b (by unfold zu_fit; rw [if_pos rfl]; simp [c34])) rfl dX7_isFit_48
    have c34 : ¬ v < 1 := c34
    refine lv_iload_n Z.1 Z.2.1 dX7_isFit_37 rfl (lv_at hl 3 rfl) ?_
    refine lv_bipush (v := nI 12) Z.1 Z.2.1 dX7_isFit_38 (by decide +kernel) ?_
    refine lv_icmp_gt (tgt := 47) Z.1 Z.2.1 dX7_isFit_40 (by decide) (fun c40 => ?_) (fun c40 => ?_)
    · have c40 : 12 < v := c40
      refine lv_iconst (v := nI 0) Z.1 Z.2.1 dX7_isFit_47 (by decide +kernel) ?_
      refine W.eq (g2 := F0 mM 48 ls [.int (zk_b false)]) rfl ?_
      exact zk_retz Z hR_ hlk hK hQ G () (congrArg zk_b (by unfold zu_fit; rw [if_pos rfl]; simp [c34, c40])) rfl dX7_isFit_48
    have c40 : ¬ 12 < v := c40
    refine lv_iconst (v := nI 1) Z.1 Z.2.1 dX7_isFit_43 (by decide +kernel) ?_
    refine lv_goto (tgt := 48) Z.1 Z.2.1 dX7_isFit_44 (by decide) ?_
    refine W.eq (g2 := F0 mM 48 ls [.int (zk_b true)]) rfl ?_
    exact zk_retz Z hR_ hlk hK hQ G () (congrArg zk_b (by unfold zu_fit; rw [if_pos rfl]; simp [c34, c40])) rfl dX7_isFit_48
  by_cases c1_1 : what = nI 1
  · subst c1_1
    refine lv_tableIn (tgt := 49) Z.1 Z.2.1 dX7_isFit_1 (by decide) (by decide) (by rfl) (by decide) ?_
    refine lv_iload_n Z.1 Z.2.1 dX7_isFit_49 rfl (lv_at hl 3 rfl) ?_
    refine lv_if_lt (tgt := 70) Z.1 Z.2.1 dX7_isFit_50 (by decide) (fun c50 => ?_) (fun c50 => ?_)
    · have c50 : v < 0 := c50
      refine lv_iconst (v := nI 0) Z.1 Z.2.1 dX7_isFit_70 (by decide +kernel) ?_
      refine W.eq (g2 := F0 mM 71 ls [.int (zk_b false)]) rfl ?_
      exact zk_retz Z hR_ hlk hK hQ G () (congrArg zk_b (by unfold zu_fit; rw [if_neg (by decide), if_pos rfl]; simp [c50])) rfl dX7_isFit_71
    have c50 : ¬ v < 0 := c50
    refine lv_iload_n Z.1 Z.2.1 dX7_isFit_53 rfl (lv_at hl 3 rfl) ?_
    refine lv_aload_n Z.1 Z.2.1 dX7_isFit_54 rfl (lv_at hl 0 rfl) ?_
    refine zk_get (C := RX7) (T := TX7) (N := 11) (ci := 7) Z hK G hinX7 0 rfl rfl 1 (by decide) (List.mem_of_getElem? (i := 1) rfl) rfl (v := .ref (a 2)) rfl dX7_isFit_55 ?_
    refine zk_get (C := RX5) (T := TX5) (N := 11) (ci := 5) Z hK G hinX5 1 rfl rfl 0 (by decide) (List.mem_of_getElem? (i := 2) rfl) rfl (v := .ref (a 20)) rfl dX7_isFit_58 ?_
    refine lv_iload_n Z.1 Z.2.1 dX7_isFit_61 rfl (lv_at hl 1 rfl) ?_
    refine zk_iald Z hK G 2 rfl (k := i) (by omega) (by decide) (v := nI (P i)) rfl dX7_isFit_62 ?_
    refine lv_icmp_ge (tgt := 70) Z.1 Z.2.1 dX7_isFit_63 (by decide) (fun c63 => ?_) (fun c63 => ?_)
    · have c63 : nI (P i) ≤ v := c63
      refine lv_iconst (v := nI 0) Z.1 Z.2.1 dX7_isFit_70 (by decide +kernel) ?_
      refine W.eq (g2 := F0 mM 71 ls [.int (zk_b false)]) rfl ?_
      exact zk_retz Z hR_ hlk hK hQ G () (congrArg zk_b (by unfold zu_fit; rw [if_neg (by decide), if_pos rfl]; simp [c50, c63])) rfl dX7_isFit_71
    have c63 : ¬ nI (P i) ≤ v := c63
    refine lv_iconst (v := nI 1) Z.1 Z.2.1 dX7_isFit_66 (by decide +kernel) ?_
    refine lv_goto (tgt := 71) Z.1 Z.2.1 dX7_isFit_67 (by decide) ?_
    refine W.eq (g2 := F0 mM 71 ls [.int (zk_b true)]) rfl ?_
    exact zk_retz Z hR_ hlk hK hQ G () (congrArg zk_b (by unfold zu_fit; rw [if_neg (by decide), if_pos rfl]; simp [c50, c63])) rfl dX7_isFit_71
  by_cases c1_2 : what = nI 2
  · subst c1_2
    refine lv_tableIn (tgt := 72) Z.1 Z.2.1 dX7_isFit_1 (by decide) (by decide) (by rfl) (by decide) ?_
    refine lv_iload_n Z.1 Z.2.1 dX7_isFit_72 rfl (lv_at hl 3 rfl) ?_
    refine lv_iconst (v := nI 1) Z.1 Z.2.1 dX7_isFit_73 (by decide +kernel) ?_
    refine lv_icmp_lt (tgt := 87) Z.1 Z.2.1 dX7_isFit_74 (by decide) (fun c74 => ?_) (fun c74 => ?_)
    · have c74 : v < 1 := c74
      refine lv_iconst (v := nI 0) Z.1 Z.2.1 dX7_isFit_87 (by decide +kernel) ?_
      refine W.eq (g2 := F0 mM 88 ls [.int (zk_b false)]) rfl ?_
      exact zk_retz Z hR_ hlk hK hQ G () (congrArg zk_b (by unfold zu_fit; rw [if_neg (by decide), if_neg (by decide), if_pos rfl]; simp [c74])) rfl dX7_isFit_88
    have c74 : ¬ v < 1 := c74
    refine lv_iload_n Z.1 Z.2.1 dX7_isFit_77 rfl (lv_at hl 3 rfl) ?_
    refine lv_bipush (v := nI 9) Z.1 Z.2.1 dX7_isFit_78 (by decide +kernel) ?_
    refine lv_icmp_gt (tgt := 87) Z.1 Z.2.1 dX7_isFit_80 (by decide) (fun c80 => ?_) (fun c80 => ?_)
    · have c80 : 9 < v := c80
      refine lv_iconst (v := nI 0) Z.1 Z.2.1 dX7_isFit_87 (by decide +kernel) ?_
      refine W.eq (g2 := F0 mM 88 ls [.int (zk_b false)]) rfl ?_
      exact zk_retz Z hR_ hlk hK hQ G () (congrArg zk_b (by unfold zu_fit; rw [if_neg (by decide), if_neg (by decide), if_pos rfl]; simp [c74, c80])) rfl dX7_isFit_88
    have c80 : ¬ 9 < v := c80
    refine lv_iconst (v := nI 1) Z.1 Z.2.1 dX7_isFit_83 (by decide +kernel) ?_
    refine lv_goto (tgt := 88) Z.1 Z.2.1 dX7_isFit_84 (by decide) ?_
    refine W.eq (g2 := F0 mM 88 ls [.int (zk_b true)]) rfl ?_
    exact zk_retz Z hR_ hlk hK hQ G () (congrArg zk_b (by unfold zu_fit; rw [if_neg (by decide), if_neg (by decide), if_pos rfl]; simp [c74, c80])) rfl dX7_isFit_88
  by_cases c1_3 : what = nI 3
  · subst c1_3
    refine lv_tableIn (tgt := 89) Z.1 Z.2.1 dX7_isFit_1 (by decide) (by decide) (by rfl) (by decide) ?_
    refine lv_iload_n Z.1 Z.2.1 dX7_isFit_89 rfl (lv_at hl 3 rfl) ?_
    refine lv_if_lt (tgt := 104) Z.1 Z.2.1 dX7_isFit_90 (by decide) (fun c90 => ?_) (fun c90 => ?_)
    · have c90 : v < 0 := c90
      refine lv_iconst (v := nI 0) Z.1 Z.2.1 dX7_isFit_104 (by decide +kernel) ?_
      refine W.eq (g2 := F0 mM 105 ls [.int (zk_b false)]) rfl ?_
      exact zk_retz Z hR_ hlk hK hQ G () (congrArg zk_b (by unfold zu_fit; rw [if_neg (by decide), if_neg (by decide), if_neg (by decide), if_pos rfl]; simp [c90])) rfl dX7_isFit_105
    have c90 : ¬ v < 0 := c90
    refine lv_iload_n Z.1 Z.2.1 dX7_isFit_93 rfl (lv_at hl 3 rfl) ?_
    refine lv_sipush (v := nI 180) Z.1 Z.2.1 dX7_isFit_94 (by decide +kernel) ?_
    refine lv_icmp_gt (tgt := 104) Z.1 Z.2.1 dX7_isFit_97 (by decide) (fun c97 => ?_) (fun c97 => ?_)
    · have c97 : 180 < v := c97
      refine lv_iconst (v := nI 0) Z.1 Z.2.1 dX7_isFit_104 (by decide +kernel) ?_
      refine W.eq (g2 := F0 mM 105 ls [.int (zk_b false)]) rfl ?_
      exact zk_retz Z hR_ hlk hK hQ G () (congrArg zk_b (by unfold zu_fit; rw [if_neg (by decide), if_neg (by decide), if_neg (by decide), if_pos rfl]; simp [c90, c97])) rfl dX7_isFit_105
    have c97 : ¬ 180 < v := c97
    refine lv_iconst (v := nI 1) Z.1 Z.2.1 dX7_isFit_100 (by decide +kernel) ?_
    refine lv_goto (tgt := 105) Z.1 Z.2.1 dX7_isFit_101 (by decide) ?_
    refine W.eq (g2 := F0 mM 105 ls [.int (zk_b true)]) rfl ?_
    exact zk_retz Z hR_ hlk hK hQ G () (congrArg zk_b (by unfold zu_fit; rw [if_neg (by decide), if_neg (by decide), if_neg (by decide), if_pos rfl]; simp [c90, c97])) rfl dX7_isFit_105
  have c1_0' : ¬ what.toInt = 0 := lv_neT c1_0 (by decide)
  have c1_1' : ¬ what.toInt = 1 := lv_neT c1_1 (by decide)
  have c1_2' : ¬ what.toInt = 2 := lv_neT c1_2 (by decide)
  have c1_3' : ¬ what.toInt = 3 := lv_neT c1_3 (by decide)
  refine lv_tableOut (tgt := 106) Z.1 Z.2.1 dX7_isFit_1 (by omega) (by decide) ?_
  refine lv_iload_n Z.1 Z.2.1 dX7_isFit_106 rfl (lv_at hl 3 rfl) ?_
  refine lv_if_lt (tgt := 120) Z.1 Z.2.1 dX7_isFit_107 (by decide) (fun c107 => ?_) (fun c107 => ?_)
  · have c107 : v < 0 := c107
    refine lv_iconst (v := nI 0) Z.1 Z.2.1 dX7_isFit_120 (by decide +kernel) ?_
    refine W.eq (g2 := F0 mM 121 ls [.int (zk_b false)]) rfl ?_
    exact zk_retz Z hR_ hlk hK hQ G () (congrArg zk_b (by unfold zu_fit; rw [if_neg c1_0, if_neg c1_1, if_neg c1_2, if_neg c1_3]; simp [c107])) rfl dX7_isFit_121
  have c107 : ¬ v < 0 := c107
  refine lv_iload_n Z.1 Z.2.1 dX7_isFit_110 rfl (lv_at hl 3 rfl) ?_
  refine lv_bipush (v := nI 12) Z.1 Z.2.1 dX7_isFit_111 (by decide +kernel) ?_
  refine lv_icmp_ge (tgt := 120) Z.1 Z.2.1 dX7_isFit_113 (by decide) (fun c113 => ?_) (fun c113 => ?_)
  · have c113 : 12 ≤ v := c113
    refine lv_iconst (v := nI 0) Z.1 Z.2.1 dX7_isFit_120 (by decide +kernel) ?_
    refine W.eq (g2 := F0 mM 121 ls [.int (zk_b false)]) rfl ?_
    exact zk_retz Z hR_ hlk hK hQ G () (congrArg zk_b (by unfold zu_fit; rw [if_neg c1_0, if_neg c1_1, if_neg c1_2, if_neg c1_3]; simp [c107, c113])) rfl dX7_isFit_121
  have c113 : ¬ 12 ≤ v := c113
  refine lv_iconst (v := nI 1) Z.1 Z.2.1 dX7_isFit_116 (by decide +kernel) ?_
  refine lv_goto (tgt := 121) Z.1 Z.2.1 dX7_isFit_117 (by decide) ?_
  refine W.eq (g2 := F0 mM 121 ls [.int (zk_b true)]) rfl ?_
  exact zk_retz Z hR_ hlk hK hQ G () (congrArg zk_b (by unfold zu_fit; rw [if_neg c1_0, if_neg c1_1, if_neg c1_2, if_neg c1_3]; simp [c107, c113])) rfl dX7_isFit_121

abbrev rm_X7_ofTheWhole : Room := { frames := 3, cells := 0, slots := 0, locals := 70 }
theorem dvX7_ofTheWhole : zk_dv yX7_ofTheWhole RX7 1 := by decide +kernel
set_option maxRecDepth 100000 in
set_option maxHeartbeats 4000000 in
theorem ct_X7_ofTheWhole (l : Launch) (D : va_G) (g : Nat → ClassId) (τ : Nat → Nat) (a : Nat → Nat) (pic : Bool) (storm : Nat) (chance : Int32) (n : Nat) (hide : Nat) (ver : Nat) (ew : Int32) (ek : Bool) (P : Nat → Nat) (S : Nat → Nat) (us : Nat) (ut : Nat) (uh : Nat) (ua : Nat) (ul : Nat) (nw : Nat) (m1 : Nat) (what : Int32) (hW : zs_W n P S) : zk_MI l D g τ yX7_ofTheWhole wsX7_ofTheWhole rm_X7_ofTheWhole [.ref (a 0), .int what] [(a 0, .inr (7, [.ref (a 1), .ref (a 2), .ref (a 3), .ref (a 4), .ref (a 50), .ref (a 60), .ref (a 7), .ref (a 8), .int (zk_b pic), .int (nI storm), .int chance])), (a 2, .inr (5, [.ref (a 20), .ref (a 21), .ref (a 22), .int (nI n), .int (nI hide), .ref (a 1), .ref (a 23), .ref (a 24), .int (nI ver), .int ew, .int (zk_b ek)])), (a 20, .inl (g 0, 7, .inl (fun i => nI (P i)))), (a 50, .inr (1, [.int (nI nw), .int (nI m1), .ref us, .ref ut, .ref uh, .ref ua, .ref ul]))] (fun (r : Int32) (_ : Unit) => r = zu_ofW n P hide storm nw what) (fun (_ : Unit) => [(a 0, .inr (7, [.ref (a 1), .ref (a 2), .ref (a 3), .ref (a 4), .ref (a 50), .ref (a 60), .ref (a 7), .ref (a 8), .int (zk_b pic), .int (nI storm), .int chance])), (a 2, .inr (5, [.ref (a 20), .ref (a 21), .ref (a 22), .int (nI n), .int (nI hide), .ref (a 1), .ref (a 23), .ref (a 24), .int (nI ver), .int ew, .int (zk_b ek)])), (a 20, .inl (g 0, 7, .inl (fun i => nI (P i)))), (a 50, .inr (1, [.int (nI nw), .int (nI m1), .ref us, .ref ut, .ref uh, .ref ua, .ref ul]))]) := by
  refine zk_of (Qc := fun A => va_Qi (fun (r : Int32) (_ : Unit) => r = zu_ofW n P hide storm nw what) (zk_B D g A (fun (_ : Unit) => [(a 0, .inr (7, [.ref (a 1), .ref (a 2), .ref (a 3), .ref (a 4), .ref (a 50), .ref (a 60), .ref (a 7), .ref (a 8), .int (zk_b pic), .int (nI storm), .int chance])), (a 2, .inr (5, [.ref (a 20), .ref (a 21), .ref (a 22), .int (nI n), .int (nI hide), .ref (a 1), .ref (a 23), .ref (a 24), .int (nI ver), .int ew, .int (zk_b ek)])), (a 20, .inl (g 0, 7, .inl (fun i => nI (P i)))), (a 50, .inr (1, [.int (nI nw), .int (nI m1), .ref us, .ref ut, .ref uh, .ref ua, .ref ul]))])) A) (cc := cX7_ofTheWhole) (maxL := 2) (ret := (some .int)) (own := RX7) (by decide) rfl rfl (Nat.le_of_ble_eq_true rfl) ?_
  intro pP eE sS mM args below meth cC aA ls qQ Z hR_ hlk hnm hK hT hA hQ G hl
  have hinX1 : ∀ w ∈ u_ws RX1 TX1 7, w ∈ wsX7_ofTheWhole := (fun _ h => List.mem_cons_of_mem _ (List.mem_append_right _ h))
  have hinX5 : ∀ w ∈ u_ws RX5 TX5 11, w ∈ wsX7_ofTheWhole := (fun _ h => List.mem_cons_of_mem _ (List.mem_append_left _ (List.mem_append_right _ h)))
  have hinX7 : ∀ w ∈ u_ws RX7 TX7 11, w ∈ wsX7_ofTheWhole := (fun _ h => List.mem_cons_of_mem _ (List.mem_append_left _ (List.mem_append_left _ (List.mem_append_right _ h))))
  have hn := hW.1
  refine lv_iload_n Z.1 Z.2.1 dX7_ofTheWhole_0 rfl (lv_at hl 1 rfl) ?_
  by_cases c1_20 : what = nI 20
  · subst c1_20
    refine lv_tableIn (tgt := 32) Z.1 Z.2.1 dX7_ofTheWhole_1 (by decide) (by decide) (by rfl) (by decide) ?_
    refine lv_aload_n Z.1 Z.2.1 dX7_ofTheWhole_32 rfl (lv_at hl 0 rfl) ?_
    refine zk_get (C := RX7) (T := TX7) (N := 11) (ci := 7) Z hK G hinX7 0 rfl rfl 1 (by decide) (List.mem_of_getElem? (i := 1) rfl) rfl (v := .ref (a 2)) rfl dX7_ofTheWhole_33 ?_
    refine zk_get (C := RX5) (T := TX5) (N := 11) (ci := 5) Z hK G hinX5 1 rfl rfl 4 (by decide) (List.mem_of_getElem? (i := 2) rfl) rfl (v := .int (nI hide)) rfl dX7_ofTheWhole_36 ?_
    exact zk_reti Z hR_ hlk hK hQ G () (by unfold zu_ofW; rw [if_pos rfl]) rfl dX7_ofTheWhole_39
  by_cases c1_21 : what = nI 21
  · subst c1_21
    refine lv_tableIn (tgt := 40) Z.1 Z.2.1 dX7_ofTheWhole_1 (by decide) (by decide) (by rfl) (by decide) ?_
    refine lv_aload_n Z.1 Z.2.1 dX7_ofTheWhole_40 rfl (lv_at hl 0 rfl) ?_
    refine zk_get (C := RX7) (T := TX7) (N := 11) (ci := 7) Z hK G hinX7 0 rfl rfl 9 (by decide) (List.mem_of_getElem? (i := 3) rfl) rfl (v := .int (nI storm)) rfl dX7_ofTheWhole_41 ?_
    exact zk_reti Z hR_ hlk hK hQ G () (by unfold zu_ofW; rw [if_neg (by decide), if_pos rfl]) rfl dX7_ofTheWhole_44
  by_cases c1_22 : what = nI 22
  · subst c1_22
    refine lv_tableIn (tgt := 45) Z.1 Z.2.1 dX7_ofTheWhole_1 (by decide) (by decide) (by rfl) (by decide) ?_
    refine lv_aload_n Z.1 Z.2.1 dX7_ofTheWhole_45 rfl (lv_at hl 0 rfl) ?_
    refine zk_get (C := RX7) (T := TX7) (N := 11) (ci := 7) Z hK G hinX7 0 rfl rfl 4 (by decide) (List.mem_of_getElem? (i := 4) rfl) rfl (v := .ref (a 50)) rfl dX7_ofTheWhole_46 ?_
    refine zk_get (C := RX1) (T := TX1) (N := 7) (ci := 1) Z hK G hinX1 3 rfl rfl 0 (by decide) (List.mem_of_getElem? (i := 5) rfl) rfl (v := .int (nI nw)) rfl dX7_ofTheWhole_49 ?_
    exact zk_reti Z hR_ hlk hK hQ G () (by unfold zu_ofW; rw [if_neg (by decide), if_neg (by decide), if_pos rfl]) rfl dX7_ofTheWhole_52
  by_cases c1_23 : what = nI 23
  · subst c1_23
    refine lv_tableIn (tgt := 53) Z.1 Z.2.1 dX7_ofTheWhole_1 (by decide) (by decide) (by rfl) (by decide) ?_
    refine lv_aload_n Z.1 Z.2.1 dX7_ofTheWhole_53 rfl (lv_at hl 0 rfl) ?_
    refine zk_get (C := RX7) (T := TX7) (N := 11) (ci := 7) Z hK G hinX7 0 rfl rfl 1 (by decide) (List.mem_of_getElem? (i := 1) rfl) rfl (v := .ref (a 2)) rfl dX7_ofTheWhole_54 ?_
    refine zk_ci (WF := fun (_ : Unit) => [(a 0, .inr (7, [.ref (a 1), .ref (a 2), .ref (a 3), .ref (a 4), .ref (a 50), .ref (a 60), .ref (a 7), .ref (a 8), .int (zk_b pic), .int (nI storm), .int chance])), (a 2, .inr (5, [.ref (a 20), .ref (a 21), .ref (a 22), .int (nI n), .int (nI hide), .ref (a 1), .ref (a 23), .ref (a 24), .int (nI ver), .int ew, .int (zk_b ek)])), (a 20, .inl (g 0, 7, .inl (fun i => nI (P i)))), (a 50, .inr (1, [.int (nI nw), .int (nI m1), .ref us, .ref ut, .ref uh, .ref ua, .ref ul]))]) (wr := [(a 0, .inr (7, [.ref (a 1), .ref (a 2), .ref (a 3), .ref (a 4), .ref (a 50), .ref (a 60), .ref (a 7), .ref (a 8), .int (zk_b pic), .int (nI storm), .int chance])), (a 50, .inr (1, [.int (nI nw), .int (nI m1), .ref us, .ref ut, .ref uh, .ref ua, .ref ul]))]) ⟨rfl, rfl⟩ (zk_rv (As := []) (rest := []) (q0 := 1) (ci := 5) Z ((ct_X5_round l D g τ a n hide ver ew ek P (by omega) (by exact fun i hi => ⟨(hW.2 i hi).1, (hW.2 i hi).2.1⟩)) sS.heap.size) hK hT hA G [1, 2] rfl (by decide) rfl rfl gX7_ofTheWhole_X5_round rfl dvX5_round ⟨by decide, by decide⟩ rfl hl.1 rfl (Nat.le_of_ble_eq_true rfl) dX7_ofTheWhole_57 ⟨Nat.zero_le _, Nat.zero_le _⟩) hA G [1, 2] [0, 3] [0, 2, 3, 1] rfl rfl (by decide) (by decide) (by decide) (fun _ => rfl) (fun r_57 _ H locs w_57 G => ?_)
    obtain rfl : r_57 = nI (zs_rnd P n) := w_57
    exact zk_reti Z hR_ hlk hK hQ G () (by unfold zu_ofW; rw [if_neg (by decide), if_neg (by decide), if_neg (by decide), if_pos rfl]) rfl dX7_ofTheWhole_60
  have c1_20' : ¬ what.toInt = 20 := lv_neT c1_20 (by decide)
  have c1_21' : ¬ what.toInt = 21 := lv_neT c1_21 (by decide)
  have c1_22' : ¬ what.toInt = 22 := lv_neT c1_22 (by decide)
  have c1_23' : ¬ what.toInt = 23 := lv_neT c1_23 (by decide)
  refine lv_tableOut (tgt := 61) Z.1 Z.2.1 dX7_ofTheWhole_1 (by omega) (by decide) ?_
  refine lv_iconst (v := (-1)) Z.1 Z.2.1 dX7_ofTheWhole_61 (by decide +kernel) ?_
  exact zk_reti Z hR_ hlk hK hQ G () (by unfold zu_ofW; rw [if_neg c1_20, if_neg c1_21, if_neg c1_22, if_neg c1_23]) rfl dX7_ofTheWhole_62

abbrev rm_X7_world : Room := { frames := 3, cells := 0, slots := 0, locals := 67 }
theorem dvX7_world : zk_dv yX7_world RX7 2 := by decide +kernel
set_option maxRecDepth 100000 in
set_option maxHeartbeats 4000000 in
theorem ct_X7_world (l : Launch) (D : va_G) (g : Nat → ClassId) (τ : Nat → Nat) (a : Nat → Nat) (pic : Bool) (storm : Nat) (chance : Int32) (n : Nat) (hide : Nat) (ver : Nat) (ew : Int32) (ek : Bool) (P : Nat → Nat) (S : Nat → Nat) (Q : Nat → Nat) (T : Nat → Int32) (ps : Int32) (ring : Int32) (hn : n ≤ 6) : zk_MI l D g τ yX7_world wsX7_world rm_X7_world [.ref (a 0), .int ps, .int ring] [(a 0, .inr (7, [.ref (a 1), .ref (a 2), .ref (a 3), .ref (a 4), .ref (a 50), .ref (a 60), .ref (a 7), .ref (a 8), .int (zk_b pic), .int (nI storm), .int chance])), (a 2, .inr (5, [.ref (a 20), .ref (a 21), .ref (a 22), .int (nI n), .int (nI hide), .ref (a 1), .ref (a 23), .ref (a 24), .int (nI ver), .int ew, .int (zk_b ek)])), (a 20, .inl (g 0, 7, .inl (fun i => nI (P i)))), (a 21, .inl (g 0, 7, .inl (fun i => nI (S i)))), (a 22, .inl (g 0, 7, .inl (fun i => nI (Q i)))), (a 23, .inl (g 2, 3024, .inl T))] (fun (r : Int32) (uu : Nat × Nat × Bool × (Nat → Nat) × (Nat → Nat) × (Nat → Nat) × (Nat → Int32)) => (r = zu_world n ps ring) ∧ (if (zt_wok ps ring && decide (n < 6)) = true then uu.1 = n + 1 ∧ uu.2.1 = ver + 1 ∧ uu.2.2.1 = false ∧ uu.2.2.2.1 = zs_up P n (ps.toInt.toNat / 100) ∧ uu.2.2.2.2.1 = zs_up S n (ps.toInt.toNat % 100) ∧ uu.2.2.2.2.2.1 = zs_up Q n ring.toInt.toNat ∧ uu.2.2.2.2.2.2 = zs_clw T n 21 else uu.1 = n ∧ uu.2.1 = ver ∧ uu.2.2.1 = ek ∧ uu.2.2.2.1 = P ∧ uu.2.2.2.2.1 = S ∧ uu.2.2.2.2.2.1 = Q ∧ uu.2.2.2.2.2.2 = T)) (fun (uu : Nat × Nat × Bool × (Nat → Nat) × (Nat → Nat) × (Nat → Nat) × (Nat → Int32)) => [(a 0, .inr (7, [.ref (a 1), .ref (a 2), .ref (a 3), .ref (a 4), .ref (a 50), .ref (a 60), .ref (a 7), .ref (a 8), .int (zk_b pic), .int (nI storm), .int chance])), (a 2, .inr (5, [.ref (a 20), .ref (a 21), .ref (a 22), .int (nI uu.1), .int (nI hide), .ref (a 1), .ref (a 23), .ref (a 24), .int (nI uu.2.1), .int ew, .int (zk_b uu.2.2.1)])), (a 20, .inl (g 0, 7, .inl (fun i => nI (uu.2.2.2.1 i)))), (a 21, .inl (g 0, 7, .inl (fun i => nI (uu.2.2.2.2.1 i)))), (a 22, .inl (g 0, 7, .inl (fun i => nI (uu.2.2.2.2.2.1 i)))), (a 23, .inl (g 2, 3024, .inl uu.2.2.2.2.2.2))]) := by
  refine zk_of (Qc := fun A => va_Qi (fun (r : Int32) (uu : Nat × Nat × Bool × (Nat → Nat) × (Nat → Nat) × (Nat → Nat) × (Nat → Int32)) => (r = zu_world n ps ring) ∧ (if (zt_wok ps ring && decide (n < 6)) = true then uu.1 = n + 1 ∧ uu.2.1 = ver + 1 ∧ uu.2.2.1 = false ∧ uu.2.2.2.1 = zs_up P n (ps.toInt.toNat / 100) ∧ uu.2.2.2.2.1 = zs_up S n (ps.toInt.toNat % 100) ∧ uu.2.2.2.2.2.1 = zs_up Q n ring.toInt.toNat ∧ uu.2.2.2.2.2.2 = zs_clw T n 21 else uu.1 = n ∧ uu.2.1 = ver ∧ uu.2.2.1 = ek ∧ uu.2.2.2.1 = P ∧ uu.2.2.2.2.1 = S ∧ uu.2.2.2.2.2.1 = Q ∧ uu.2.2.2.2.2.2 = T)) (zk_B D g A (fun (uu : Nat × Nat × Bool × (Nat → Nat) × (Nat → Nat) × (Nat → Nat) × (Nat → Int32)) => [(a 0, .inr (7, [.ref (a 1), .ref (a 2), .ref (a 3), .ref (a 4), .ref (a 50), .ref (a 60), .ref (a 7), .ref (a 8), .int (zk_b pic), .int (nI storm), .int chance])), (a 2, .inr (5, [.ref (a 20), .ref (a 21), .ref (a 22), .int (nI uu.1), .int (nI hide), .ref (a 1), .ref (a 23), .ref (a 24), .int (nI uu.2.1), .int ew, .int (zk_b uu.2.2.1)])), (a 20, .inl (g 0, 7, .inl (fun i => nI (uu.2.2.2.1 i)))), (a 21, .inl (g 0, 7, .inl (fun i => nI (uu.2.2.2.2.1 i)))), (a 22, .inl (g 0, 7, .inl (fun i => nI (uu.2.2.2.2.2.1 i)))), (a 23, .inl (g 2, 3024, .inl uu.2.2.2.2.2.2))])) A) (cc := cX7_world) (maxL := 3) (ret := (some .int)) (own := RX7) (by decide) rfl rfl (Nat.le_of_ble_eq_true rfl) ?_
  intro pP eE sS mM args below meth cC aA ls qQ Z hR_ hlk hnm hK hT hA hQ G hl
  have hinX5 : ∀ w ∈ u_ws RX5 TX5 11, w ∈ wsX7_world := (fun _ h => List.mem_cons_of_mem _ (List.mem_append_right _ h))
  have hinX7 : ∀ w ∈ u_ws RX7 TX7 11, w ∈ wsX7_world := (fun _ h => List.mem_cons_of_mem _ (List.mem_append_left _ (List.mem_append_right _ h)))
  refine lv_iload_n Z.1 Z.2.1 dX7_world_0 rfl (lv_at hl 1 rfl) ?_
  refine lv_if_lt (tgt := 19) Z.1 Z.2.1 dX7_world_1 (by decide) (fun c1 => ?_) (fun c1 => ?_)
  · have c1 : ps < 0 := c1
    have hno9 := zt_wok_neg (ring := ring) c1
    refine lv_iconst (v := (-1)) Z.1 Z.2.1 dX7_world_19 (by decide +kernel) ?_
    exact zk_reti Z hR_ hlk hK hQ G (n, ver, ek, P, S, Q, T) ⟨(by simp only [zu_world]; rw [if_neg (by rw [hno9]; decide)]), (by rw [if_neg (by rw [hno9, Bool.false_and]; decide)]; exact ⟨rfl, rfl, rfl, rfl, rfl, rfl, rfl⟩)⟩ rfl dX7_world_20
  have c1 : ¬ ps < 0 := c1
  obtain ⟨j, hj, rfl⟩ := nI_of c1
  refine lv_iload_n Z.1 Z.2.1 dX7_world_4 rfl (lv_at hl 1 rfl) ?_
  refine lv_bipush (v := nI 100) Z.1 Z.2.1 dX7_world_5 (by decide +kernel) ?_
  refine zk_idiv Z dX7_world_7 (nI_ne0 (by omega) (by omega)) (z := nI (j / 100)) (pk_div (by omega) (by omega) (by omega)) ?_
  refine lv_iload_n Z.1 Z.2.1 dX7_world_8 rfl (lv_at hl 1 rfl) ?_
  refine lv_bipush (v := nI 100) Z.1 Z.2.1 dX7_world_9 (by decide +kernel) ?_
  refine zk_irem Z dX7_world_11 (nI_ne0 (by omega) (by omega)) (z := nI (j % 100)) (pk_rem (by omega) (by omega) (by omega)) ?_
  refine lv_iload_n Z.1 Z.2.1 dX7_world_12 rfl (lv_at hl 2 rfl) ?_
  refine zk_ci (WF := fun (_ : Unit) => [(a 0, .inr (7, [.ref (a 1), .ref (a 2), .ref (a 3), .ref (a 4), .ref (a 50), .ref (a 60), .ref (a 7), .ref (a 8), .int (zk_b pic), .int (nI storm), .int chance])), (a 2, .inr (5, [.ref (a 20), .ref (a 21), .ref (a 22), .int (nI n), .int (nI hide), .ref (a 1), .ref (a 23), .ref (a 24), .int (nI ver), .int ew, .int (zk_b ek)])), (a 20, .inl (g 0, 7, .inl (fun i => nI (P i)))), (a 21, .inl (g 0, 7, .inl (fun i => nI (S i)))), (a 22, .inl (g 0, 7, .inl (fun i => nI (Q i)))), (a 23, .inl (g 2, 3024, .inl T))]) (wr := [(a 0, .inr (7, [.ref (a 1), .ref (a 2), .ref (a 3), .ref (a 4), .ref (a 50), .ref (a 60), .ref (a 7), .ref (a 8), .int (zk_b pic), .int (nI storm), .int chance])), (a 2, .inr (5, [.ref (a 20), .ref (a 21), .ref (a 22), .int (nI n), .int (nI hide), .ref (a 1), .ref (a 23), .ref (a 24), .int (nI ver), .int ew, .int (zk_b ek)])), (a 20, .inl (g 0, 7, .inl (fun i => nI (P i)))), (a 21, .inl (g 0, 7, .inl (fun i => nI (S i)))), (a 22, .inl (g 0, 7, .inl (fun i => nI (Q i)))), (a 23, .inl (g 2, 3024, .inl T))]) ⟨rfl, rfl⟩ (zk_rs (As := [.int (nI (j / 100)), .int (nI (j % 100)), .int ring]) (rest := []) Z ((ct_X5_isWorld l D g τ (nI (j / 100)) (nI (j % 100)) ring ) sS.heap.size) hK hT hA G [] rfl (by decide) gX7_world_X5_isWorld rfl dvX5_isWorld ⟨by decide, by decide⟩ rfl hl.1 rfl (Nat.le_of_ble_eq_true rfl) dX7_world_13 ⟨Nat.zero_le _, Nat.zero_le _⟩) hA G [] [0, 1, 2, 3, 4, 5] [0, 1, 2, 3, 4, 5] rfl rfl (by decide) (by decide) (by decide) (fun _ => rfl) (fun r_13 _ H locs w_13 G => ?_)
  obtain rfl : r_13 = zk_b (zs_isW (nI (j / 100)) (nI (j % 100)) ring) := w_13
  refine lv_if_ne (tgt := 21) Z.1 Z.2.1 dX7_world_16 (by decide) (fun c16 => ?_) (fun c16 => ?_)
  · have c16 : zs_isW (nI (j / 100)) (nI (j % 100)) ring = true := zk_b1.mp c16
    have hok9 := (zt_wok_n (ring := ring) hj).trans c16
    obtain ⟨w1, w2, w3, r, rfl, w4, w5⟩ := zs_isW_n (by omega) (by omega) c16
    refine lv_aload_n Z.1 Z.2.1 dX7_world_21 rfl (lv_at hl 0 rfl) ?_
    refine zk_get (C := RX7) (T := TX7) (N := 11) (ci := 7) Z hK G hinX7 0 rfl rfl 1 (by decide) (List.mem_of_getElem? (i := 1) rfl) rfl (v := .ref (a 2)) rfl dX7_world_22 ?_
    refine zk_get (C := RX5) (T := TX5) (N := 11) (ci := 5) Z hK G hinX5 1 rfl rfl 3 (by decide) (List.mem_of_getElem? (i := 2) rfl) rfl (v := .int (nI n)) rfl dX7_world_25 ?_
    refine lv_bipush (v := nI 6) Z.1 Z.2.1 dX7_world_28 (by decide +kernel) ?_
    refine lv_icmp_lt (tgt := 36) Z.1 Z.2.1 dX7_world_30 (by decide) (fun c30 => ?_) (fun c30 => ?_)
    · have c30 : n < 6 := zk_lt (by omega) (by omega) c30
      refine lv_aload_n Z.1 Z.2.1 dX7_world_36 rfl (lv_at hl 0 rfl) ?_
      refine zk_get (C := RX7) (T := TX7) (N := 11) (ci := 7) Z hK G hinX7 0 rfl rfl 1 (by decide) (List.mem_of_getElem? (i := 1) rfl) rfl (v := .ref (a 2)) rfl dX7_world_37 ?_
      refine lv_iload_n Z.1 Z.2.1 dX7_world_40 rfl (lv_at hl 1 rfl) ?_
      refine lv_bipush (v := nI 100) Z.1 Z.2.1 dX7_world_41 (by decide +kernel) ?_
      refine zk_idiv Z dX7_world_43 (nI_ne0 (by omega) (by omega)) (z := nI (j / 100)) (pk_div (by omega) (by omega) (by omega)) ?_
      refine lv_iload_n Z.1 Z.2.1 dX7_world_44 rfl (lv_at hl 1 rfl) ?_
      refine lv_bipush (v := nI 100) Z.1 Z.2.1 dX7_world_45 (by decide +kernel) ?_
      refine zk_irem Z dX7_world_47 (nI_ne0 (by omega) (by omega)) (z := nI (j % 100)) (pk_rem (by omega) (by omega) (by omega)) ?_
      refine lv_iload_n Z.1 Z.2.1 dX7_world_48 rfl (lv_at hl 2 rfl) ?_
      refine zk_ci (WF := fun (_ : Unit) => [(a 0, .inr (7, [.ref (a 1), .ref (a 2), .ref (a 3), .ref (a 4), .ref (a 50), .ref (a 60), .ref (a 7), .ref (a 8), .int (zk_b pic), .int (nI storm), .int chance])), (a 2, .inr (5, [.ref (a 20), .ref (a 21), .ref (a 22), .int (nI (n + 1)), .int (nI hide), .ref (a 1), .ref (a 23), .ref (a 24), .int (nI (ver + 1)), .int ew, .int (zk_b false)])), (a 20, .inl (g 0, 7, .inl (fun i => nI (zs_up P n (j / 100) i)))), (a 21, .inl (g 0, 7, .inl (fun i => nI (zs_up S n (j % 100) i)))), (a 22, .inl (g 0, 7, .inl (fun i => nI (zs_up Q n r i)))), (a 23, .inl (g 2, 3024, .inl (zs_clw T n 21)))]) (wr := [(a 0, .inr (7, [.ref (a 1), .ref (a 2), .ref (a 3), .ref (a 4), .ref (a 50), .ref (a 60), .ref (a 7), .ref (a 8), .int (zk_b pic), .int (nI storm), .int chance]))]) ⟨rfl, rfl⟩ (zk_rv (As := [.int (nI (j / 100)), .int (nI (j % 100)), .int (nI r)]) (rest := []) (q0 := 1) (ci := 5) Z ((ct_X5_add l D g τ a n hide ver ew ek P S Q T (j / 100) (j % 100) r (by omega)) H.size) hK hT hA G [1, 2, 3, 4, 5] rfl (by decide) rfl rfl gX7_world_X5_add rfl dvX5_add ⟨by decide, by decide⟩ rfl hl.1 rfl (Nat.le_of_ble_eq_true rfl) dX7_world_49 ⟨Nat.zero_le _, Nat.zero_le _⟩) hA G [1, 2, 3, 4, 5] [0] [0, 1, 2, 3, 4, 5] rfl rfl (by decide) (by decide) (by decide) (fun _ => rfl) (fun r_49 _ H locs w_49 G => ?_)
      obtain rfl : r_49 = nI n := w_49
      exact zk_reti Z hR_ hlk hK hQ G (n + 1, ver + 1, false, zs_up P n (j / 100), zs_up S n (j % 100), zs_up Q n r, zs_clw T n 21) ⟨(by simp only [zu_world]; rw [if_pos hok9, if_neg (by omega)]), (by rw [if_pos (by rw [hok9, decide_eq_true c30]; rfl)]; rw [zb_nat hj, zb_nat (by omega)]; exact ⟨rfl, rfl, rfl, rfl, rfl, rfl, rfl⟩)⟩ rfl dX7_world_52
    have c30 : 6 ≤ n := zk_nlt (by omega) (by omega) c30
    refine lv_bipush (v := (-3)) Z.1 Z.2.1 dX7_world_33 (by decide +kernel) ?_
    exact zk_reti Z hR_ hlk hK hQ G (n, ver, ek, P, S, Q, T) ⟨(by simp only [zu_world]; rw [if_pos hok9, if_pos (by omega)]), (by rw [if_neg (by rw [hok9, decide_eq_false (by omega)]; decide)]; exact ⟨rfl, rfl, rfl, rfl, rfl, rfl, rfl⟩)⟩ rfl dX7_world_35
  have c16 : zs_isW (nI (j / 100)) (nI (j % 100)) ring = false := zk_b0.mp c16
  have hno9 := (zt_wok_n (ring := ring) hj).trans c16
  refine lv_iconst (v := (-1)) Z.1 Z.2.1 dX7_world_19 (by decide +kernel) ?_
  exact zk_reti Z hR_ hlk hK hQ G (n, ver, ek, P, S, Q, T) ⟨(by simp only [zu_world]; rw [if_neg (by rw [hno9]; decide)]), (by rw [if_neg (by rw [hno9, Bool.false_and]; decide)]; exact ⟨rfl, rfl, rfl, rfl, rfl, rfl, rfl⟩)⟩ rfl dX7_world_20

abbrev rm_X7_tell : Room := { frames := 2, cells := 0, slots := 0, locals := 44 }
theorem dvX7_tell : zk_dv yX7_tell RX7 3 := by decide +kernel
set_option maxRecDepth 100000 in
set_option maxHeartbeats 4000000 in
theorem ct_X7_tell (l : Launch) (D : va_G) (g : Nat → ClassId) (τ : Nat → Nat) (a : Nat → Nat) (pic : Bool) (storm : Nat) (chance : Int32) (n : Nat) (hide : Nat) (ver : Nat) (ew : Int32) (ek : Bool) (P : Nat → Nat) (S : Nat → Nat) (Q : Nat → Nat) (T : Nat → Int32) (y : Nat) (k : Nat) (v : Nat) (hi : y < 7) (hk : k ≤ 4) : zk_MV l D g τ yX7_tell wsX7_tell rm_X7_tell [.ref (a 0), .int (nI y), .int (nI k), .int (nI v)] [(a 0, .inr (7, [.ref (a 1), .ref (a 2), .ref (a 3), .ref (a 4), .ref (a 50), .ref (a 60), .ref (a 7), .ref (a 8), .int (zk_b pic), .int (nI storm), .int chance])), (a 2, .inr (5, [.ref (a 20), .ref (a 21), .ref (a 22), .int (nI n), .int (nI hide), .ref (a 1), .ref (a 23), .ref (a 24), .int (nI ver), .int ew, .int (zk_b ek)])), (a 20, .inl (g 0, 7, .inl (fun i => nI (P i)))), (a 21, .inl (g 0, 7, .inl (fun i => nI (S i)))), (a 22, .inl (g 0, 7, .inl (fun i => nI (Q i)))), (a 23, .inl (g 2, 3024, .inl T))] (fun (_ : Unit) => True) (fun (_ : Unit) => [(a 0, .inr (7, [.ref (a 1), .ref (a 2), .ref (a 3), .ref (a 4), .ref (a 50), .ref (a 60), .ref (a 7), .ref (a 8), .int (zk_b pic), .int (nI (if k = 4 then v else storm)), .int chance])), (a 2, .inr (5, [.ref (a 20), .ref (a 21), .ref (a 22), .int (nI n), .int (nI (if k = 3 then v else hide)), .ref (a 1), .ref (a 23), .ref (a 24), .int (nI (if k = 4 then ver else ver + 1)), .int ew, .int (zk_b (if k = 4 then ek else false))])), (a 20, .inl (g 0, 7, .inl (fun i => nI ((if k = 0 then zs_up P y v else P) i)))), (a 21, .inl (g 0, 7, .inl (fun i => nI ((if k = 1 then zs_up S y v else S) i)))), (a 22, .inl (g 0, 7, .inl (fun i => nI ((if k = 2 then zs_up Q y v else Q) i)))), (a 23, .inl (g 2, 3024, .inl (if k = 4 then T else if k = 3 then zs_fill (fun _ => vp_nar .byte (nI 0)) T 3024 else zs_clw T y 21)))]) := by
  refine zk_of (Qc := fun A => va_Qv (fun (_ : Unit) => True) (zk_B D g A (fun (_ : Unit) => [(a 0, .inr (7, [.ref (a 1), .ref (a 2), .ref (a 3), .ref (a 4), .ref (a 50), .ref (a 60), .ref (a 7), .ref (a 8), .int (zk_b pic), .int (nI (if k = 4 then v else storm)), .int chance])), (a 2, .inr (5, [.ref (a 20), .ref (a 21), .ref (a 22), .int (nI n), .int (nI (if k = 3 then v else hide)), .ref (a 1), .ref (a 23), .ref (a 24), .int (nI (if k = 4 then ver else ver + 1)), .int ew, .int (zk_b (if k = 4 then ek else false))])), (a 20, .inl (g 0, 7, .inl (fun i => nI ((if k = 0 then zs_up P y v else P) i)))), (a 21, .inl (g 0, 7, .inl (fun i => nI ((if k = 1 then zs_up S y v else S) i)))), (a 22, .inl (g 0, 7, .inl (fun i => nI ((if k = 2 then zs_up Q y v else Q) i)))), (a 23, .inl (g 2, 3024, .inl (if k = 4 then T else if k = 3 then zs_fill (fun _ => vp_nar .byte (nI 0)) T 3024 else zs_clw T y 21)))])) A) (cc := cX7_tell) (maxL := 4) (ret := none) (own := RX7) (by decide) rfl rfl (Nat.le_of_ble_eq_true rfl) ?_
  intro pP eE sS mM args below meth cC aA ls qQ Z hR_ hlk hnm hK hT hA hQ G hl
  have hinX5 : ∀ w ∈ u_ws RX5 TX5 11, w ∈ wsX7_tell := (fun _ h => List.mem_cons_of_mem _ (List.mem_append_right _ h))
  have hinX7 : ∀ w ∈ u_ws RX7 TX7 11, w ∈ wsX7_tell := (fun _ h => List.mem_cons_of_mem _ (List.mem_append_left _ (List.mem_append_right _ h)))
  refine lv_iload_n Z.1 Z.2.1 dX7_tell_0 rfl (lv_at hl 2 rfl) ?_
  by_cases c1_0 : k = 0
  · subst c1_0
    refine lv_tableIn (tgt := 32) Z.1 Z.2.1 dX7_tell_1 (by decide) (by decide) (by rfl) (by decide) ?_
    refine lv_aload_n Z.1 Z.2.1 dX7_tell_32 rfl (lv_at hl 0 rfl) ?_
    refine zk_get (C := RX7) (T := TX7) (N := 11) (ci := 7) Z hK G hinX7 0 rfl rfl 1 (by decide) (List.mem_of_getElem? (i := 1) rfl) rfl (v := .ref (a 2)) rfl dX7_tell_33 ?_
    refine zk_get (C := RX5) (T := TX5) (N := 11) (ci := 5) Z hK G hinX5 1 rfl rfl 0 (by decide) (List.mem_of_getElem? (i := 2) rfl) rfl (v := .ref (a 20)) rfl dX7_tell_36 ?_
    refine lv_iload_n Z.1 Z.2.1 dX7_tell_39 rfl (lv_at hl 1 rfl) ?_
    refine lv_iload_n Z.1 Z.2.1 dX7_tell_40 rfl (lv_at hl 3 rfl) ?_
    refine zk_iast Z hK G 2 rfl (k := y) (by omega) (by decide) (zs_up_n _ _ _) (ws' := [(a 0, .inr (7, [.ref (a 1), .ref (a 2), .ref (a 3), .ref (a 4), .ref (a 50), .ref (a 60), .ref (a 7), .ref (a 8), .int (zk_b pic), .int (nI storm), .int chance])), (a 2, .inr (5, [.ref (a 20), .ref (a 21), .ref (a 22), .int (nI n), .int (nI hide), .ref (a 1), .ref (a 23), .ref (a 24), .int (nI ver), .int ew, .int (zk_b ek)])), (a 20, .inl (g 0, 7, .inl (fun x => nI (zs_up P y v x)))), (a 21, .inl (g 0, 7, .inl (fun i => nI (S i)))), (a 22, .inl (g 0, 7, .inl (fun i => nI (Q i)))), (a 23, .inl (g 2, 3024, .inl T))]) rfl dX7_tell_41 (fun H locs G => ?_)
    refine lv_goto (tgt := 87) Z.1 Z.2.1 dX7_tell_42 (by decide) ?_
    refine lv_iload_n Z.1 Z.2.1 dX7_tell_87 rfl (lv_at hl 2 rfl) ?_
    refine lv_iconst (v := nI 3) Z.1 Z.2.1 dX7_tell_88 (by decide +kernel) ?_
    refine lv_icmp_ne (tgt := 102) Z.1 Z.2.1 dX7_tell_89 (by decide) (fun c89 => ?_) (fun c89 => ?_)
    · have c89 : 0 ≠ 3 := zk_neq (by omega) (by omega) c89
      refine lv_iload_n Z.1 Z.2.1 dX7_tell_102 rfl (lv_at hl 2 rfl) ?_
      refine lv_iconst (v := nI 3) Z.1 Z.2.1 dX7_tell_103 (by decide +kernel) ?_
      refine lv_icmp_ge (tgt := 115) Z.1 Z.2.1 dX7_tell_104 (by decide) (fun c104 => ?_) (fun c104 => ?_)
      · exfalso
        have c104 : 3 ≤ 0 := zk_le (by omega) (by omega) c104
        omega
      have c104 : 0 < 3 := zk_nle (by omega) (by omega) c104
      refine lv_aload_n Z.1 Z.2.1 dX7_tell_107 rfl (lv_at hl 0 rfl) ?_
      refine zk_get (C := RX7) (T := TX7) (N := 11) (ci := 7) Z hK G hinX7 0 rfl rfl 1 (by decide) (List.mem_of_getElem? (i := 1) rfl) rfl (v := .ref (a 2)) rfl dX7_tell_108 ?_
      refine lv_iload_n Z.1 Z.2.1 dX7_tell_111 rfl (lv_at hl 1 rfl) ?_
      refine zk_cv (WF := fun (_ : Unit) => [(a 0, .inr (7, [.ref (a 1), .ref (a 2), .ref (a 3), .ref (a 4), .ref (a 50), .ref (a 60), .ref (a 7), .ref (a 8), .int (zk_b pic), .int (nI storm), .int chance])), (a 2, .inr (5, [.ref (a 20), .ref (a 21), .ref (a 22), .int (nI n), .int (nI hide), .ref (a 1), .ref (a 23), .ref (a 24), .int (nI (ver + 1)), .int ew, .int (zk_b false)])), (a 20, .inl (g 0, 7, .inl (fun x => nI (zs_up P y v x)))), (a 21, .inl (g 0, 7, .inl (fun i => nI (S i)))), (a 22, .inl (g 0, 7, .inl (fun i => nI (Q i)))), (a 23, .inl (g 2, 3024, .inl (zs_clw T y 21)))]) (wr := [(a 0, .inr (7, [.ref (a 1), .ref (a 2), .ref (a 3), .ref (a 4), .ref (a 50), .ref (a 60), .ref (a 7), .ref (a 8), .int (zk_b pic), .int (nI storm), .int chance])), (a 20, .inl (g 0, 7, .inl (fun x => nI (zs_up P y v x)))), (a 21, .inl (g 0, 7, .inl (fun i => nI (S i)))), (a 22, .inl (g 0, 7, .inl (fun i => nI (Q i))))]) ⟨rfl, rfl⟩ (zk_rv (As := [.int (nI y)]) (rest := []) (q0 := 1) (ci := 5) Z ((ct_X5_forgetWorld l D g τ a n hide ver ew ek T y (by omega)) H.size) hK hT hA G [1, 5] rfl (by decide) rfl rfl gX7_tell_X5_forgetWorld rfl dvX5_forgetWorld ⟨by decide, by decide⟩ rfl hl.1 rfl (Nat.le_of_ble_eq_true rfl) dX7_tell_112 ⟨Nat.zero_le _, Nat.zero_le _⟩) hA G [1, 5] [0, 2, 3, 4] [0, 4, 1, 2, 3, 5] rfl rfl (by decide) (by decide) (by decide) (fun _ => rfl) (fun _ H locs w_112 G => ?_)
      exact zk_retv Z hR_ hlk hK hQ G () trivial rfl dX7_tell_115
    exfalso
    have c89 : 0 = 3 := zk_eq (by omega) (by omega) c89
    omega
  by_cases c1_1 : k = 1
  · subst c1_1
    refine lv_tableIn (tgt := 45) Z.1 Z.2.1 dX7_tell_1 (by decide) (by decide) (by rfl) (by decide) ?_
    refine lv_aload_n Z.1 Z.2.1 dX7_tell_45 rfl (lv_at hl 0 rfl) ?_
    refine zk_get (C := RX7) (T := TX7) (N := 11) (ci := 7) Z hK G hinX7 0 rfl rfl 1 (by decide) (List.mem_of_getElem? (i := 1) rfl) rfl (v := .ref (a 2)) rfl dX7_tell_46 ?_
    refine zk_get (C := RX5) (T := TX5) (N := 11) (ci := 5) Z hK G hinX5 1 rfl rfl 1 (by decide) (List.mem_of_getElem? (i := 3) rfl) rfl (v := .ref (a 21)) rfl dX7_tell_49 ?_
    refine lv_iload_n Z.1 Z.2.1 dX7_tell_52 rfl (lv_at hl 1 rfl) ?_
    refine lv_iload_n Z.1 Z.2.1 dX7_tell_53 rfl (lv_at hl 3 rfl) ?_
    refine zk_iast Z hK G 3 rfl (k := y) (by omega) (by decide) (zs_up_n _ _ _) (ws' := [(a 0, .inr (7, [.ref (a 1), .ref (a 2), .ref (a 3), .ref (a 4), .ref (a 50), .ref (a 60), .ref (a 7), .ref (a 8), .int (zk_b pic), .int (nI storm), .int chance])), (a 2, .inr (5, [.ref (a 20), .ref (a 21), .ref (a 22), .int (nI n), .int (nI hide), .ref (a 1), .ref (a 23), .ref (a 24), .int (nI ver), .int ew, .int (zk_b ek)])), (a 20, .inl (g 0, 7, .inl (fun i => nI (P i)))), (a 21, .inl (g 0, 7, .inl (fun x => nI (zs_up S y v x)))), (a 22, .inl (g 0, 7, .inl (fun i => nI (Q i)))), (a 23, .inl (g 2, 3024, .inl T))]) rfl dX7_tell_54 (fun H locs G => ?_)
    refine lv_goto (tgt := 87) Z.1 Z.2.1 dX7_tell_55 (by decide) ?_
    refine lv_iload_n Z.1 Z.2.1 dX7_tell_87 rfl (lv_at hl 2 rfl) ?_
    refine lv_iconst (v := nI 3) Z.1 Z.2.1 dX7_tell_88 (by decide +kernel) ?_
    refine lv_icmp_ne (tgt := 102) Z.1 Z.2.1 dX7_tell_89 (by decide) (fun c89 => ?_) (fun c89 => ?_)
    · have c89 : 1 ≠ 3 := zk_neq (by omega) (by omega) c89
      refine lv_iload_n Z.1 Z.2.1 dX7_tell_102 rfl (lv_at hl 2 rfl) ?_
      refine lv_iconst (v := nI 3) Z.1 Z.2.1 dX7_tell_103 (by decide +kernel) ?_
      refine lv_icmp_ge (tgt := 115) Z.1 Z.2.1 dX7_tell_104 (by decide) (fun c104 => ?_) (fun c104 => ?_)
      · exfalso
        have c104 : 3 ≤ 1 := zk_le (by omega) (by omega) c104
        omega
      have c104 : 1 < 3 := zk_nle (by omega) (by omega) c104
      refine lv_aload_n Z.1 Z.2.1 dX7_tell_107 rfl (lv_at hl 0 rfl) ?_
      refine zk_get (C := RX7) (T := TX7) (N := 11) (ci := 7) Z hK G hinX7 0 rfl rfl 1 (by decide) (List.mem_of_getElem? (i := 1) rfl) rfl (v := .ref (a 2)) rfl dX7_tell_108 ?_
      refine lv_iload_n Z.1 Z.2.1 dX7_tell_111 rfl (lv_at hl 1 rfl) ?_
      refine zk_cv (WF := fun (_ : Unit) => [(a 0, .inr (7, [.ref (a 1), .ref (a 2), .ref (a 3), .ref (a 4), .ref (a 50), .ref (a 60), .ref (a 7), .ref (a 8), .int (zk_b pic), .int (nI storm), .int chance])), (a 2, .inr (5, [.ref (a 20), .ref (a 21), .ref (a 22), .int (nI n), .int (nI hide), .ref (a 1), .ref (a 23), .ref (a 24), .int (nI (ver + 1)), .int ew, .int (zk_b false)])), (a 20, .inl (g 0, 7, .inl (fun i => nI (P i)))), (a 21, .inl (g 0, 7, .inl (fun x => nI (zs_up S y v x)))), (a 22, .inl (g 0, 7, .inl (fun i => nI (Q i)))), (a 23, .inl (g 2, 3024, .inl (zs_clw T y 21)))]) (wr := [(a 0, .inr (7, [.ref (a 1), .ref (a 2), .ref (a 3), .ref (a 4), .ref (a 50), .ref (a 60), .ref (a 7), .ref (a 8), .int (zk_b pic), .int (nI storm), .int chance])), (a 20, .inl (g 0, 7, .inl (fun i => nI (P i)))), (a 21, .inl (g 0, 7, .inl (fun x => nI (zs_up S y v x)))), (a 22, .inl (g 0, 7, .inl (fun i => nI (Q i))))]) ⟨rfl, rfl⟩ (zk_rv (As := [.int (nI y)]) (rest := []) (q0 := 1) (ci := 5) Z ((ct_X5_forgetWorld l D g τ a n hide ver ew ek T y (by omega)) H.size) hK hT hA G [1, 5] rfl (by decide) rfl rfl gX7_tell_X5_forgetWorld rfl dvX5_forgetWorld ⟨by decide, by decide⟩ rfl hl.1 rfl (Nat.le_of_ble_eq_true rfl) dX7_tell_112 ⟨Nat.zero_le _, Nat.zero_le _⟩) hA G [1, 5] [0, 2, 3, 4] [0, 4, 1, 2, 3, 5] rfl rfl (by decide) (by decide) (by decide) (fun _ => rfl) (fun _ H locs w_112 G => ?_)
      exact zk_retv Z hR_ hlk hK hQ G () trivial rfl dX7_tell_115
    exfalso
    have c89 : 1 = 3 := zk_eq (by omega) (by omega) c89
    omega
  by_cases c1_2 : k = 2
  · subst c1_2
    refine lv_tableIn (tgt := 58) Z.1 Z.2.1 dX7_tell_1 (by decide) (by decide) (by rfl) (by decide) ?_
    refine lv_aload_n Z.1 Z.2.1 dX7_tell_58 rfl (lv_at hl 0 rfl) ?_
    refine zk_get (C := RX7) (T := TX7) (N := 11) (ci := 7) Z hK G hinX7 0 rfl rfl 1 (by decide) (List.mem_of_getElem? (i := 1) rfl) rfl (v := .ref (a 2)) rfl dX7_tell_59 ?_
    refine zk_get (C := RX5) (T := TX5) (N := 11) (ci := 5) Z hK G hinX5 1 rfl rfl 2 (by decide) (List.mem_of_getElem? (i := 4) rfl) rfl (v := .ref (a 22)) rfl dX7_tell_62 ?_
    refine lv_iload_n Z.1 Z.2.1 dX7_tell_65 rfl (lv_at hl 1 rfl) ?_
    refine lv_iload_n Z.1 Z.2.1 dX7_tell_66 rfl (lv_at hl 3 rfl) ?_
    refine zk_iast Z hK G 4 rfl (k := y) (by omega) (by decide) (zs_up_n _ _ _) (ws' := [(a 0, .inr (7, [.ref (a 1), .ref (a 2), .ref (a 3), .ref (a 4), .ref (a 50), .ref (a 60), .ref (a 7), .ref (a 8), .int (zk_b pic), .int (nI storm), .int chance])), (a 2, .inr (5, [.ref (a 20), .ref (a 21), .ref (a 22), .int (nI n), .int (nI hide), .ref (a 1), .ref (a 23), .ref (a 24), .int (nI ver), .int ew, .int (zk_b ek)])), (a 20, .inl (g 0, 7, .inl (fun i => nI (P i)))), (a 21, .inl (g 0, 7, .inl (fun i => nI (S i)))), (a 22, .inl (g 0, 7, .inl (fun x => nI (zs_up Q y v x)))), (a 23, .inl (g 2, 3024, .inl T))]) rfl dX7_tell_67 (fun H locs G => ?_)
    refine lv_goto (tgt := 87) Z.1 Z.2.1 dX7_tell_68 (by decide) ?_
    refine lv_iload_n Z.1 Z.2.1 dX7_tell_87 rfl (lv_at hl 2 rfl) ?_
    refine lv_iconst (v := nI 3) Z.1 Z.2.1 dX7_tell_88 (by decide +kernel) ?_
    refine lv_icmp_ne (tgt := 102) Z.1 Z.2.1 dX7_tell_89 (by decide) (fun c89 => ?_) (fun c89 => ?_)
    · have c89 : 2 ≠ 3 := zk_neq (by omega) (by omega) c89
      refine lv_iload_n Z.1 Z.2.1 dX7_tell_102 rfl (lv_at hl 2 rfl) ?_
      refine lv_iconst (v := nI 3) Z.1 Z.2.1 dX7_tell_103 (by decide +kernel) ?_
      refine lv_icmp_ge (tgt := 115) Z.1 Z.2.1 dX7_tell_104 (by decide) (fun c104 => ?_) (fun c104 => ?_)
      · exfalso
        have c104 : 3 ≤ 2 := zk_le (by omega) (by omega) c104
        omega
      have c104 : 2 < 3 := zk_nle (by omega) (by omega) c104
      refine lv_aload_n Z.1 Z.2.1 dX7_tell_107 rfl (lv_at hl 0 rfl) ?_
      refine zk_get (C := RX7) (T := TX7) (N := 11) (ci := 7) Z hK G hinX7 0 rfl rfl 1 (by decide) (List.mem_of_getElem? (i := 1) rfl) rfl (v := .ref (a 2)) rfl dX7_tell_108 ?_
      refine lv_iload_n Z.1 Z.2.1 dX7_tell_111 rfl (lv_at hl 1 rfl) ?_
      refine zk_cv (WF := fun (_ : Unit) => [(a 0, .inr (7, [.ref (a 1), .ref (a 2), .ref (a 3), .ref (a 4), .ref (a 50), .ref (a 60), .ref (a 7), .ref (a 8), .int (zk_b pic), .int (nI storm), .int chance])), (a 2, .inr (5, [.ref (a 20), .ref (a 21), .ref (a 22), .int (nI n), .int (nI hide), .ref (a 1), .ref (a 23), .ref (a 24), .int (nI (ver + 1)), .int ew, .int (zk_b false)])), (a 20, .inl (g 0, 7, .inl (fun i => nI (P i)))), (a 21, .inl (g 0, 7, .inl (fun i => nI (S i)))), (a 22, .inl (g 0, 7, .inl (fun x => nI (zs_up Q y v x)))), (a 23, .inl (g 2, 3024, .inl (zs_clw T y 21)))]) (wr := [(a 0, .inr (7, [.ref (a 1), .ref (a 2), .ref (a 3), .ref (a 4), .ref (a 50), .ref (a 60), .ref (a 7), .ref (a 8), .int (zk_b pic), .int (nI storm), .int chance])), (a 20, .inl (g 0, 7, .inl (fun i => nI (P i)))), (a 21, .inl (g 0, 7, .inl (fun i => nI (S i)))), (a 22, .inl (g 0, 7, .inl (fun x => nI (zs_up Q y v x))))]) ⟨rfl, rfl⟩ (zk_rv (As := [.int (nI y)]) (rest := []) (q0 := 1) (ci := 5) Z ((ct_X5_forgetWorld l D g τ a n hide ver ew ek T y (by omega)) H.size) hK hT hA G [1, 5] rfl (by decide) rfl rfl gX7_tell_X5_forgetWorld rfl dvX5_forgetWorld ⟨by decide, by decide⟩ rfl hl.1 rfl (Nat.le_of_ble_eq_true rfl) dX7_tell_112 ⟨Nat.zero_le _, Nat.zero_le _⟩) hA G [1, 5] [0, 2, 3, 4] [0, 4, 1, 2, 3, 5] rfl rfl (by decide) (by decide) (by decide) (fun _ => rfl) (fun _ H locs w_112 G => ?_)
      exact zk_retv Z hR_ hlk hK hQ G () trivial rfl dX7_tell_115
    exfalso
    have c89 : 2 = 3 := zk_eq (by omega) (by omega) c89
    omega
  by_cases c1_3 : k = 3
  · subst c1_3
    refine lv_tableIn (tgt := 71) Z.1 Z.2.1 dX7_tell_1 (by decide) (by decide) (by rfl) (by decide) ?_
    refine lv_aload_n Z.1 Z.2.1 dX7_tell_71 rfl (lv_at hl 0 rfl) ?_
    refine zk_get (C := RX7) (T := TX7) (N := 11) (ci := 7) Z hK G hinX7 0 rfl rfl 1 (by decide) (List.mem_of_getElem? (i := 1) rfl) rfl (v := .ref (a 2)) rfl dX7_tell_72 ?_
    refine lv_iload_n Z.1 Z.2.1 dX7_tell_75 rfl (lv_at hl 3 rfl) ?_
    refine zk_put tyX5 tyX5_ok nmX5 (C := RX5) (T := TX5) (N := 11) (ci := 5) Z hK G hinX5 1 rfl rfl 4 (by decide) (List.mem_of_getElem? (i := 5) rfl) rfl rfl rfl rfl (Nat.le_of_ble_eq_true rfl) (ws' := [(a 0, .inr (7, [.ref (a 1), .ref (a 2), .ref (a 3), .ref (a 4), .ref (a 50), .ref (a 60), .ref (a 7), .ref (a 8), .int (zk_b pic), .int (nI storm), .int chance])), (a 2, .inr (5, [.ref (a 20), .ref (a 21), .ref (a 22), .int (nI n), .int (nI v), .ref (a 1), .ref (a 23), .ref (a 24), .int (nI ver), .int ew, .int (zk_b ek)])), (a 20, .inl (g 0, 7, .inl (fun i => nI (P i)))), (a 21, .inl (g 0, 7, .inl (fun i => nI (S i)))), (a 22, .inl (g 0, 7, .inl (fun i => nI (Q i)))), (a 23, .inl (g 2, 3024, .inl T))]) rfl dX7_tell_76 (fun H locs G => ?_)
    refine lv_goto (tgt := 87) Z.1 Z.2.1 dX7_tell_79 (by decide) ?_
    refine lv_iload_n Z.1 Z.2.1 dX7_tell_87 rfl (lv_at hl 2 rfl) ?_
    refine lv_iconst (v := nI 3) Z.1 Z.2.1 dX7_tell_88 (by decide +kernel) ?_
    refine lv_icmp_ne (tgt := 102) Z.1 Z.2.1 dX7_tell_89 (by decide) (fun c89 => ?_) (fun c89 => ?_)
    · exfalso
      have c89 : 3 ≠ 3 := zk_neq (by omega) (by omega) c89
      omega
    have c89 : 3 = 3 := zk_eq (by omega) (by omega) c89
    refine lv_aload_n Z.1 Z.2.1 dX7_tell_92 rfl (lv_at hl 0 rfl) ?_
    refine zk_get (C := RX7) (T := TX7) (N := 11) (ci := 7) Z hK G hinX7 0 rfl rfl 1 (by decide) (List.mem_of_getElem? (i := 1) rfl) rfl (v := .ref (a 2)) rfl dX7_tell_93 ?_
    refine zk_cv (WF := fun (_ : Unit) => [(a 0, .inr (7, [.ref (a 1), .ref (a 2), .ref (a 3), .ref (a 4), .ref (a 50), .ref (a 60), .ref (a 7), .ref (a 8), .int (zk_b pic), .int (nI storm), .int chance])), (a 2, .inr (5, [.ref (a 20), .ref (a 21), .ref (a 22), .int (nI n), .int (nI v), .ref (a 1), .ref (a 23), .ref (a 24), .int (nI (ver + 1)), .int ew, .int (zk_b false)])), (a 20, .inl (g 0, 7, .inl (fun i => nI (P i)))), (a 21, .inl (g 0, 7, .inl (fun i => nI (S i)))), (a 22, .inl (g 0, 7, .inl (fun i => nI (Q i)))), (a 23, .inl (g 2, 3024, .inl (zs_fill (fun _ => vp_nar .byte (nI 0)) T 3024)))]) (wr := [(a 0, .inr (7, [.ref (a 1), .ref (a 2), .ref (a 3), .ref (a 4), .ref (a 50), .ref (a 60), .ref (a 7), .ref (a 8), .int (zk_b pic), .int (nI storm), .int chance])), (a 20, .inl (g 0, 7, .inl (fun i => nI (P i)))), (a 21, .inl (g 0, 7, .inl (fun i => nI (S i)))), (a 22, .inl (g 0, 7, .inl (fun i => nI (Q i))))]) ⟨rfl, rfl⟩ (zk_rv (As := []) (rest := []) (q0 := 1) (ci := 5) Z ((ct_X5_forgetAll l D g τ a n v ver ew ek T ) H.size) hK hT hA G [1, 5] rfl (by decide) rfl rfl gX7_tell_X5_forgetAll rfl dvX5_forgetAll ⟨by decide, by decide⟩ rfl hl.1 rfl (Nat.le_of_ble_eq_true rfl) dX7_tell_96 ⟨Nat.zero_le _, Nat.zero_le _⟩) hA G [1, 5] [0, 2, 3, 4] [0, 4, 1, 2, 3, 5] rfl rfl (by decide) (by decide) (by decide) (fun _ => rfl) (fun _ H locs w_96 G => ?_)
    refine lv_goto (tgt := 115) Z.1 Z.2.1 dX7_tell_99 (by decide) ?_
    exact zk_retv Z hR_ hlk hK hQ G () trivial rfl dX7_tell_115
  have c1_t : (nI k).toInt = (k : Int) := nI_toInt (by omega)
  refine lv_tableOut (tgt := 82) Z.1 Z.2.1 dX7_tell_1 (by omega) (by decide) ?_
  refine lv_aload_n Z.1 Z.2.1 dX7_tell_82 rfl (lv_at hl 0 rfl) ?_
  refine lv_iload_n Z.1 Z.2.1 dX7_tell_83 rfl (lv_at hl 3 rfl) ?_
  refine zk_put tyX7 tyX7_ok nmX7 (C := RX7) (T := TX7) (N := 11) (ci := 7) Z hK G hinX7 0 rfl rfl 9 (by decide) (List.mem_of_getElem? (i := 6) rfl) rfl rfl rfl rfl (Nat.le_of_ble_eq_true rfl) (ws' := [(a 0, .inr (7, [.ref (a 1), .ref (a 2), .ref (a 3), .ref (a 4), .ref (a 50), .ref (a 60), .ref (a 7), .ref (a 8), .int (zk_b pic), .int (nI v), .int chance])), (a 2, .inr (5, [.ref (a 20), .ref (a 21), .ref (a 22), .int (nI n), .int (nI hide), .ref (a 1), .ref (a 23), .ref (a 24), .int (nI ver), .int ew, .int (zk_b ek)])), (a 20, .inl (g 0, 7, .inl (fun i => nI (P i)))), (a 21, .inl (g 0, 7, .inl (fun i => nI (S i)))), (a 22, .inl (g 0, 7, .inl (fun i => nI (Q i)))), (a 23, .inl (g 2, 3024, .inl T))]) rfl dX7_tell_84 (fun H locs G => ?_)
  have e4 : k = 4 := by omega
  subst e4
  refine lv_iload_n Z.1 Z.2.1 dX7_tell_87 rfl (lv_at hl 2 rfl) ?_
  refine lv_iconst (v := nI 3) Z.1 Z.2.1 dX7_tell_88 (by decide +kernel) ?_
  refine lv_icmp_ne (tgt := 102) Z.1 Z.2.1 dX7_tell_89 (by decide) (fun c89 => ?_) (fun c89 => ?_)
  · have c89 : 4 ≠ 3 := zk_neq (by omega) (by omega) c89
    refine lv_iload_n Z.1 Z.2.1 dX7_tell_102 rfl (lv_at hl 2 rfl) ?_
    refine lv_iconst (v := nI 3) Z.1 Z.2.1 dX7_tell_103 (by decide +kernel) ?_
    refine lv_icmp_ge (tgt := 115) Z.1 Z.2.1 dX7_tell_104 (by decide) (fun c104 => ?_) (fun c104 => ?_)
    · have c104 : 3 ≤ 4 := zk_le (by omega) (by omega) c104
      exact zk_retv Z hR_ hlk hK hQ G () trivial rfl dX7_tell_115
    exfalso
    have c104 : 4 < 3 := zk_nle (by omega) (by omega) c104
    omega
  exfalso
  have c89 : 4 = 3 := zk_eq (by omega) (by omega) c89
  omega

abbrev rm_X7_mend : Room := { frames := 3, cells := 0, slots := 0, locals := 104 }
theorem dvX7_mend : zk_dv yX7_mend RX7 3 := by decide +kernel
set_option maxRecDepth 100000 in
set_option maxHeartbeats 4000000 in
theorem ct_X7_mend (l : Launch) (D : va_G) (g : Nat → ClassId) (τ : Nat → Nat) (a : Nat → Nat) (pic : Bool) (storm : Nat) (chance : Int32) (n : Nat) (hide : Nat) (ver : Nat) (ew : Int32) (ek : Bool) (P : Nat → Nat) (S : Nat → Nat) (Q : Nat → Nat) (T : Nat → Int32) (d : Nat) (z : Nat) (N : Nat → Nat) (A1 : Nat → Nat) (O1 : Nat → Nat) (F : Nat → Nat) (number : Int32) (what : Int32) (v : Int32) (hW : zs_W n P S) (hq9 : ∀ x, x < n → Q x ≤ 9) (hhi : hide ≤ 180) (hst : storm ≤ 12) (hd : d ≤ 40) : zk_MI l D g τ yX7_mend wsX7_mend rm_X7_mend [.ref (a 0), .int number, .int what, .int v] [(a 0, .inr (7, [.ref (a 1), .ref (a 2), .ref (a 3), .ref (a 4), .ref (a 50), .ref (a 60), .ref (a 7), .ref (a 8), .int (zk_b pic), .int (nI storm), .int chance])), (a 2, .inr (5, [.ref (a 20), .ref (a 21), .ref (a 22), .int (nI n), .int (nI hide), .ref (a 1), .ref (a 23), .ref (a 24), .int (nI ver), .int ew, .int (zk_b ek)])), (a 20, .inl (g 0, 7, .inl (fun i => nI (P i)))), (a 21, .inl (g 0, 7, .inl (fun i => nI (S i)))), (a 22, .inl (g 0, 7, .inl (fun i => nI (Q i)))), (a 23, .inl (g 2, 3024, .inl T)), (a 4, .inr (0, [.int (nI d), .int (nI z), .ref (a 40), .ref (a 41), .ref (a 42), .ref (a 43)])), (a 40, .inl (g 0, 40, .inl (fun i => nI (N i)))), (a 41, .inl (g 0, 40, .inl (fun i => nI (A1 i)))), (a 42, .inl (g 0, 40, .inl (fun i => nI (O1 i)))), (a 43, .inl (g 0, 40, .inl (fun i => nI (F i))))] (fun (r : Int32) (uu : Nat × Nat × Nat × Bool × (Nat → Nat) × (Nat → Nat) × (Nat → Nat) × (Nat → Int32) × Nat × (Nat → Nat) × (Nat → Nat) × (Nat → Nat) × (Nat → Nat)) => (r = zu_mend n P S Q hide storm number what v) ∧ ((uu.1, uu.2.1, uu.2.2.1, uu.2.2.2.1, uu.2.2.2.2.1, uu.2.2.2.2.2.1, uu.2.2.2.2.2.2.1, uu.2.2.2.2.2.2.2.1, uu.2.2.2.2.2.2.2.2.1, uu.2.2.2.2.2.2.2.2.2.1, uu.2.2.2.2.2.2.2.2.2.2.1, uu.2.2.2.2.2.2.2.2.2.2.2.1, uu.2.2.2.2.2.2.2.2.2.2.2.2) = if zu_chg n P S Q hide storm number what v = true then ((if what.toInt.toNat = 3 then v.toInt.toNat else hide), (if what.toInt.toNat = 4 then v.toInt.toNat else storm), (if what.toInt.toNat = 4 then ver else ver + 1), (if what.toInt.toNat = 4 then ek else false), (if what.toInt.toNat = 0 then zs_up P number.toInt.toNat v.toInt.toNat else P), (if what.toInt.toNat = 1 then zs_up S number.toInt.toNat v.toInt.toNat else S), (if what.toInt.toNat = 2 then zs_up Q number.toInt.toNat v.toInt.toNat else Q), (if what.toInt.toNat = 4 then T else if what.toInt.toNat = 3 then zs_fill (fun _ => vp_nar .byte (nI 0)) T 3024 else zs_clw T number.toInt.toNat 21), zc_d d + 1, zs_up (zc_f d N) (zc_d d) number.toInt.toNat, zs_up (zc_f d A1) (zc_d d) what.toInt.toNat, zs_up (zc_f d O1) (zc_d d) ((zu_told P S Q hide storm (number.toInt.toNat) what).toInt.toNat), zs_up (zc_f d F) (zc_d d) v.toInt.toNat) else (hide, storm, ver, ek, P, S, Q, T, d, N, A1, O1, F))) (fun (uu : Nat × Nat × Nat × Bool × (Nat → Nat) × (Nat → Nat) × (Nat → Nat) × (Nat → Int32) × Nat × (Nat → Nat) × (Nat → Nat) × (Nat → Nat) × (Nat → Nat)) => [(a 0, .inr (7, [.ref (a 1), .ref (a 2), .ref (a 3), .ref (a 4), .ref (a 50), .ref (a 60), .ref (a 7), .ref (a 8), .int (zk_b pic), .int (nI uu.2.1), .int chance])), (a 2, .inr (5, [.ref (a 20), .ref (a 21), .ref (a 22), .int (nI n), .int (nI uu.1), .ref (a 1), .ref (a 23), .ref (a 24), .int (nI uu.2.2.1), .int ew, .int (zk_b uu.2.2.2.1)])), (a 20, .inl (g 0, 7, .inl (fun i => nI (uu.2.2.2.2.1 i)))), (a 21, .inl (g 0, 7, .inl (fun i => nI (uu.2.2.2.2.2.1 i)))), (a 22, .inl (g 0, 7, .inl (fun i => nI (uu.2.2.2.2.2.2.1 i)))), (a 23, .inl (g 2, 3024, .inl uu.2.2.2.2.2.2.2.1)), (a 4, .inr (0, [.int (nI uu.2.2.2.2.2.2.2.2.1), .int (nI (if zu_chg n P S Q hide storm number what v = true then zc_d d + 1 else z)), .ref (a 40), .ref (a 41), .ref (a 42), .ref (a 43)])), (a 40, .inl (g 0, 40, .inl (fun i => nI (uu.2.2.2.2.2.2.2.2.2.1 i)))), (a 41, .inl (g 0, 40, .inl (fun i => nI (uu.2.2.2.2.2.2.2.2.2.2.1 i)))), (a 42, .inl (g 0, 40, .inl (fun i => nI (uu.2.2.2.2.2.2.2.2.2.2.2.1 i)))), (a 43, .inl (g 0, 40, .inl (fun i => nI (uu.2.2.2.2.2.2.2.2.2.2.2.2 i))))]) := by
  refine zk_of (Qc := fun A => va_Qi (fun (r : Int32) (uu : Nat × Nat × Nat × Bool × (Nat → Nat) × (Nat → Nat) × (Nat → Nat) × (Nat → Int32) × Nat × (Nat → Nat) × (Nat → Nat) × (Nat → Nat) × (Nat → Nat)) => (r = zu_mend n P S Q hide storm number what v) ∧ ((uu.1, uu.2.1, uu.2.2.1, uu.2.2.2.1, uu.2.2.2.2.1, uu.2.2.2.2.2.1, uu.2.2.2.2.2.2.1, uu.2.2.2.2.2.2.2.1, uu.2.2.2.2.2.2.2.2.1, uu.2.2.2.2.2.2.2.2.2.1, uu.2.2.2.2.2.2.2.2.2.2.1, uu.2.2.2.2.2.2.2.2.2.2.2.1, uu.2.2.2.2.2.2.2.2.2.2.2.2) = if zu_chg n P S Q hide storm number what v = true then ((if what.toInt.toNat = 3 then v.toInt.toNat else hide), (if what.toInt.toNat = 4 then v.toInt.toNat else storm), (if what.toInt.toNat = 4 then ver else ver + 1), (if what.toInt.toNat = 4 then ek else false), (if what.toInt.toNat = 0 then zs_up P number.toInt.toNat v.toInt.toNat else P), (if what.toInt.toNat = 1 then zs_up S number.toInt.toNat v.toInt.toNat else S), (if what.toInt.toNat = 2 then zs_up Q number.toInt.toNat v.toInt.toNat else Q), (if what.toInt.toNat = 4 then T else if what.toInt.toNat = 3 then zs_fill (fun _ => vp_nar .byte (nI 0)) T 3024 else zs_clw T number.toInt.toNat 21), zc_d d + 1, zs_up (zc_f d N) (zc_d d) number.toInt.toNat, zs_up (zc_f d A1) (zc_d d) what.toInt.toNat, zs_up (zc_f d O1) (zc_d d) ((zu_told P S Q hide storm (number.toInt.toNat) what).toInt.toNat), zs_up (zc_f d F) (zc_d d) v.toInt.toNat) else (hide, storm, ver, ek, P, S, Q, T, d, N, A1, O1, F))) (zk_B D g A (fun (uu : Nat × Nat × Nat × Bool × (Nat → Nat) × (Nat → Nat) × (Nat → Nat) × (Nat → Int32) × Nat × (Nat → Nat) × (Nat → Nat) × (Nat → Nat) × (Nat → Nat)) => [(a 0, .inr (7, [.ref (a 1), .ref (a 2), .ref (a 3), .ref (a 4), .ref (a 50), .ref (a 60), .ref (a 7), .ref (a 8), .int (zk_b pic), .int (nI uu.2.1), .int chance])), (a 2, .inr (5, [.ref (a 20), .ref (a 21), .ref (a 22), .int (nI n), .int (nI uu.1), .ref (a 1), .ref (a 23), .ref (a 24), .int (nI uu.2.2.1), .int ew, .int (zk_b uu.2.2.2.1)])), (a 20, .inl (g 0, 7, .inl (fun i => nI (uu.2.2.2.2.1 i)))), (a 21, .inl (g 0, 7, .inl (fun i => nI (uu.2.2.2.2.2.1 i)))), (a 22, .inl (g 0, 7, .inl (fun i => nI (uu.2.2.2.2.2.2.1 i)))), (a 23, .inl (g 2, 3024, .inl uu.2.2.2.2.2.2.2.1)), (a 4, .inr (0, [.int (nI uu.2.2.2.2.2.2.2.2.1), .int (nI (if zu_chg n P S Q hide storm number what v = true then zc_d d + 1 else z)), .ref (a 40), .ref (a 41), .ref (a 42), .ref (a 43)])), (a 40, .inl (g 0, 40, .inl (fun i => nI (uu.2.2.2.2.2.2.2.2.2.1 i)))), (a 41, .inl (g 0, 40, .inl (fun i => nI (uu.2.2.2.2.2.2.2.2.2.2.1 i)))), (a 42, .inl (g 0, 40, .inl (fun i => nI (uu.2.2.2.2.2.2.2.2.2.2.2.1 i)))), (a 43, .inl (g 0, 40, .inl (fun i => nI (uu.2.2.2.2.2.2.2.2.2.2.2.2 i))))])) A) (cc := cX7_mend) (maxL := 5) (ret := (some .int)) (own := RX7) (by decide) rfl rfl (Nat.le_of_ble_eq_true rfl) ?_
  intro pP eE sS mM args below meth cC aA ls qQ Z hR_ hlk hnm hK hT hA hQ G hl
  have hinX7 : ∀ w ∈ u_ws RX7 TX7 11, w ∈ wsX7_mend := (fun _ h => List.mem_cons_of_mem _ (List.mem_append_left _ (List.mem_append_left _ (List.mem_append_right _ h))))
  have hn := hW.1
  refine lv_aload_n Z.1 Z.2.1 dX7_mend_0 rfl (lv_at hl 0 rfl) ?_
  refine lv_iload_n Z.1 Z.2.1 dX7_mend_1 rfl (lv_at hl 1 rfl) ?_
  refine lv_iload_n Z.1 Z.2.1 dX7_mend_2 rfl (lv_at hl 2 rfl) ?_
  refine zk_ci (WF := fun (_ : Unit) => [(a 0, .inr (7, [.ref (a 1), .ref (a 2), .ref (a 3), .ref (a 4), .ref (a 50), .ref (a 60), .ref (a 7), .ref (a 8), .int (zk_b pic), .int (nI storm), .int chance])), (a 2, .inr (5, [.ref (a 20), .ref (a 21), .ref (a 22), .int (nI n), .int (nI hide), .ref (a 1), .ref (a 23), .ref (a 24), .int (nI ver), .int ew, .int (zk_b ek)])), (a 20, .inl (g 0, 7, .inl (fun i => nI (P i)))), (a 21, .inl (g 0, 7, .inl (fun i => nI (S i)))), (a 22, .inl (g 0, 7, .inl (fun i => nI (Q i)))), (a 23, .inl (g 2, 3024, .inl T)), (a 4, .inr (0, [.int (nI d), .int (nI z), .ref (a 40), .ref (a 41), .ref (a 42), .ref (a 43)])), (a 40, .inl (g 0, 40, .inl (fun i => nI (N i)))), (a 41, .inl (g 0, 40, .inl (fun i => nI (A1 i)))), (a 42, .inl (g 0, 40, .inl (fun i => nI (O1 i)))), (a 43, .inl (g 0, 40, .inl (fun i => nI (F i))))]) (wr := [(a 20, .inl (g 0, 7, .inl (fun i => nI (P i)))), (a 21, .inl (g 0, 7, .inl (fun i => nI (S i)))), (a 22, .inl (g 0, 7, .inl (fun i => nI (Q i)))), (a 23, .inl (g 2, 3024, .inl T)), (a 4, .inr (0, [.int (nI d), .int (nI z), .ref (a 40), .ref (a 41), .ref (a 42), .ref (a 43)])), (a 40, .inl (g 0, 40, .inl (fun i => nI (N i)))), (a 41, .inl (g 0, 40, .inl (fun i => nI (A1 i)))), (a 42, .inl (g 0, 40, .inl (fun i => nI (O1 i)))), (a 43, .inl (g 0, 40, .inl (fun i => nI (F i))))]) ⟨rfl, rfl⟩ (zk_rv (As := [.int number, .int what]) (rest := []) (q0 := 0) (ci := 7) Z ((ct_X7_isMendable l D g τ a pic storm chance n hide ver ew ek number what (by omega)) sS.heap.size) hK hT hA G [0, 1] rfl (by decide) rfl rfl gX7_mend_X7_isMendable rfl dvX7_isMendable ⟨by decide, by decide⟩ rfl hl.1 rfl (Nat.le_of_ble_eq_true rfl) dX7_mend_3 ⟨Nat.zero_le _, Nat.zero_le _⟩) hA G [0, 1] [2, 3, 4, 5, 6, 7, 8, 9, 10] [9, 10, 0, 1, 2, 3, 4, 5, 6, 7, 8] rfl rfl (by decide) (by decide) (by decide) (fun _ => rfl) (fun r_3 _ H locs w_3 G => ?_)
  obtain rfl : r_3 = zk_b (zu_mendable n number what) := w_3
  refine lv_if_eq (tgt := 19) Z.1 Z.2.1 dX7_mend_6 (by decide) (fun c6 => ?_) (fun c6 => ?_)
  · have c6 : zu_mendable n number what = false := zk_b0.mp c6
    refine lv_iconst (v := (-1)) Z.1 Z.2.1 dX7_mend_19 (by decide +kernel) ?_
    have hno : (zu_mendable n number what && zu_fit P number.toInt.toNat what v) = false := by rw [c6, Bool.false_and]
    have hch : zu_chg n P S Q hide storm number what v = false := by unfold zu_chg; rw [hno, Bool.false_and]
    exact zk_reti Z hR_ hlk hK hQ G (hide, storm, ver, ek, P, S, Q, T, d, N, A1, O1, F) ⟨(by unfold zu_mend; rw [hno]; rfl), (by rw [if_neg (by rw [hch]; decide)])⟩ (by rw [if_neg (by rw [hch]; decide)]) dX7_mend_20
  have c6 : zu_mendable n number what = true := zk_b1.mp c6
  have c6_0 := c6
  obtain ⟨y, k, hy, hk, rfl, rfl, h3, h4⟩ := zu_mendable_ex hn c6
  refine lv_aload_n Z.1 Z.2.1 dX7_mend_9 rfl (lv_at hl 0 rfl) ?_
  refine lv_iload_n Z.1 Z.2.1 dX7_mend_10 rfl (lv_at hl 1 rfl) ?_
  refine lv_iload_n Z.1 Z.2.1 dX7_mend_11 rfl (lv_at hl 2 rfl) ?_
  refine lv_iload_n Z.1 Z.2.1 dX7_mend_12 rfl (lv_at hl 3 rfl) ?_
  refine zk_ci (WF := fun (_ : Unit) => [(a 0, .inr (7, [.ref (a 1), .ref (a 2), .ref (a 3), .ref (a 4), .ref (a 50), .ref (a 60), .ref (a 7), .ref (a 8), .int (zk_b pic), .int (nI storm), .int chance])), (a 2, .inr (5, [.ref (a 20), .ref (a 21), .ref (a 22), .int (nI n), .int (nI hide), .ref (a 1), .ref (a 23), .ref (a 24), .int (nI ver), .int ew, .int (zk_b ek)])), (a 20, .inl (g 0, 7, .inl (fun i => nI (P i)))), (a 21, .inl (g 0, 7, .inl (fun i => nI (S i)))), (a 22, .inl (g 0, 7, .inl (fun i => nI (Q i)))), (a 23, .inl (g 2, 3024, .inl T)), (a 4, .inr (0, [.int (nI d), .int (nI z), .ref (a 40), .ref (a 41), .ref (a 42), .ref (a 43)])), (a 40, .inl (g 0, 40, .inl (fun i => nI (N i)))), (a 41, .inl (g 0, 40, .inl (fun i => nI (A1 i)))), (a 42, .inl (g 0, 40, .inl (fun i => nI (O1 i)))), (a 43, .inl (g 0, 40, .inl (fun i => nI (F i))))]) (wr := [(a 21, .inl (g 0, 7, .inl (fun i => nI (S i)))), (a 22, .inl (g 0, 7, .inl (fun i => nI (Q i)))), (a 23, .inl (g 2, 3024, .inl T)), (a 4, .inr (0, [.int (nI d), .int (nI z), .ref (a 40), .ref (a 41), .ref (a 42), .ref (a 43)])), (a 40, .inl (g 0, 40, .inl (fun i => nI (N i)))), (a 41, .inl (g 0, 40, .inl (fun i => nI (A1 i)))), (a 42, .inl (g 0, 40, .inl (fun i => nI (O1 i)))), (a 43, .inl (g 0, 40, .inl (fun i => nI (F i))))]) ⟨rfl, rfl⟩ (zk_rv (As := [.int (nI y), .int (nI k), .int v]) (rest := []) (q0 := 0) (ci := 7) Z ((ct_X7_isFit l D g τ a pic storm chance n hide ver ew ek P y (nI k) v (by omega)) H.size) hK hT hA G [0, 1, 2] rfl (by decide) rfl rfl gX7_mend_X7_isFit rfl dvX7_isFit ⟨by decide, by decide⟩ rfl hl.1 rfl (Nat.le_of_ble_eq_true rfl) dX7_mend_13 ⟨Nat.zero_le _, Nat.zero_le _⟩) hA G [0, 1, 2] [3, 4, 5, 6, 7, 8, 9, 10] [8, 9, 10, 0, 1, 2, 3, 4, 5, 6, 7] rfl rfl (by decide) (by decide) (by decide) (fun _ => rfl) (fun r_13 _ H locs w_13 G => ?_)
  obtain rfl : r_13 = zk_b (zu_fit P y (nI k) v) := w_13
  refine lv_if_ne (tgt := 21) Z.1 Z.2.1 dX7_mend_16 (by decide) (fun c16 => ?_) (fun c16 => ?_)
  · have c16 : zu_fit P y (nI k) v = true := zk_b1.mp c16
    have c16_0 := c16
    obtain ⟨x, rfl, hx, -⟩ := zu_fit_ex (fun q9 => (hW.2 y (h4 (by omega))).2.1) hk c16
    refine lv_aload_n Z.1 Z.2.1 dX7_mend_21 rfl (lv_at hl 0 rfl) ?_
    refine lv_iload_n Z.1 Z.2.1 dX7_mend_22 rfl (lv_at hl 1 rfl) ?_
    refine lv_iload_n Z.1 Z.2.1 dX7_mend_23 rfl (lv_at hl 2 rfl) ?_
    refine zk_ci (WF := fun (_ : Unit) => [(a 0, .inr (7, [.ref (a 1), .ref (a 2), .ref (a 3), .ref (a 4), .ref (a 50), .ref (a 60), .ref (a 7), .ref (a 8), .int (zk_b pic), .int (nI storm), .int chance])), (a 2, .inr (5, [.ref (a 20), .ref (a 21), .ref (a 22), .int (nI n), .int (nI hide), .ref (a 1), .ref (a 23), .ref (a 24), .int (nI ver), .int ew, .int (zk_b ek)])), (a 20, .inl (g 0, 7, .inl (fun i => nI (P i)))), (a 21, .inl (g 0, 7, .inl (fun i => nI (S i)))), (a 22, .inl (g 0, 7, .inl (fun i => nI (Q i)))), (a 23, .inl (g 2, 3024, .inl T)), (a 4, .inr (0, [.int (nI d), .int (nI z), .ref (a 40), .ref (a 41), .ref (a 42), .ref (a 43)])), (a 40, .inl (g 0, 40, .inl (fun i => nI (N i)))), (a 41, .inl (g 0, 40, .inl (fun i => nI (A1 i)))), (a 42, .inl (g 0, 40, .inl (fun i => nI (O1 i)))), (a 43, .inl (g 0, 40, .inl (fun i => nI (F i))))]) (wr := [(a 23, .inl (g 2, 3024, .inl T)), (a 4, .inr (0, [.int (nI d), .int (nI z), .ref (a 40), .ref (a 41), .ref (a 42), .ref (a 43)])), (a 40, .inl (g 0, 40, .inl (fun i => nI (N i)))), (a 41, .inl (g 0, 40, .inl (fun i => nI (A1 i)))), (a 42, .inl (g 0, 40, .inl (fun i => nI (O1 i)))), (a 43, .inl (g 0, 40, .inl (fun i => nI (F i))))]) ⟨rfl, rfl⟩ (zk_rv (As := [.int (nI y), .int (nI k)]) (rest := []) (q0 := 0) (ci := 7) Z ((ct_X7_told l D g τ a pic storm chance n hide ver ew ek P S Q y (nI k) (by omega)) H.size) hK hT hA G [0, 1, 2, 3, 4] rfl (by decide) rfl rfl gX7_mend_X7_told rfl dvX7_told ⟨by decide, by decide⟩ rfl hl.1 rfl (Nat.le_of_ble_eq_true rfl) dX7_mend_24 ⟨Nat.zero_le _, Nat.zero_le _⟩) hA G [0, 1, 2, 3, 4] [5, 6, 7, 8, 9, 10] [6, 7, 8, 9, 10, 0, 1, 2, 3, 4, 5] rfl rfl (by decide) (by decide) (by decide) (fun _ => rfl) (fun r_24 _ H locs w_24 G => ?_)
    obtain rfl : r_24 = zu_told P S Q hide storm y (nI k) := w_24
    have hT9 := zu_told_n (P := P) (S := S) (Q := Q) (hide := hide) (storm := storm) (i := y) (show k < 2 ^ 31 by omega)
    have hTL := zu_toldN_le h4 hW hq9 hhi hst
    rw [hT9]
    refine lv_istore (lv' := [(4, .int (nI (zu_toldN P S Q hide storm y k))), (0, .ref (a 0)), (1, .int (nI y)), (2, .int (nI k)), (3, .int (nI x))]) Z.1 Z.2.1 dX7_mend_27 hl (by decide) rfl (fun ls hl => ?_)
    refine lv_iload Z.1 Z.2.1 dX7_mend_29 (lv_at hl 0 rfl) ?_
    refine lv_iload_n Z.1 Z.2.1 dX7_mend_31 rfl (lv_at hl 4 rfl) ?_
    refine lv_icmp_eq (tgt := 54) Z.1 Z.2.1 dX7_mend_32 (by decide) (fun c32 => ?_) (fun c32 => ?_)
    · have c32 : zu_toldN P S Q hide storm y k = x := zk_eq (by omega) (by omega) c32
      refine lv_iload Z.1 Z.2.1 dX7_mend_54 (lv_at hl 0 rfl) ?_
      have hok9 : (zu_mendable n (nI y) (nI k) && zu_fit P (nI y).toInt.toNat (nI k) (nI x)) = true := by rw [c6_0, zb_nat (by omega), c16_0]; rfl
      have hch : zu_chg n P S Q hide storm (nI y) (nI k) (nI x) = false := by simp only [zu_chg]; rw [hok9, zb_nat (by omega), hT9, c32]; simp
      exact zk_reti Z hR_ hlk hK hQ G (hide, storm, ver, ek, P, S, Q, T, d, N, A1, O1, F) ⟨(by simp only [zu_mend]; rw [if_pos hok9, zb_nat (by omega), hT9]), (by rw [if_neg (by rw [hch]; decide)])⟩ (by rw [hch]; rfl) dX7_mend_56
    have c32 : zu_toldN P S Q hide storm y k ≠ x := zk_neq (by omega) (by omega) c32
    refine lv_aload_n Z.1 Z.2.1 dX7_mend_35 rfl (lv_at hl 1 rfl) ?_
    refine lv_iload_n Z.1 Z.2.1 dX7_mend_36 rfl (lv_at hl 2 rfl) ?_
    refine lv_iload_n Z.1 Z.2.1 dX7_mend_37 rfl (lv_at hl 3 rfl) ?_
    refine lv_iload_n Z.1 Z.2.1 dX7_mend_38 rfl (lv_at hl 4 rfl) ?_
    refine zk_cv (WF := fun (_ : Unit) => [(a 0, .inr (7, [.ref (a 1), .ref (a 2), .ref (a 3), .ref (a 4), .ref (a 50), .ref (a 60), .ref (a 7), .ref (a 8), .int (zk_b pic), .int (nI (if k = 4 then x else storm)), .int chance])), (a 2, .inr (5, [.ref (a 20), .ref (a 21), .ref (a 22), .int (nI n), .int (nI (if k = 3 then x else hide)), .ref (a 1), .ref (a 23), .ref (a 24), .int (nI (if k = 4 then ver else ver + 1)), .int ew, .int (zk_b (if k = 4 then ek else false))])), (a 20, .inl (g 0, 7, .inl (fun i => nI ((if k = 0 then zs_up P y x else P) i)))), (a 21, .inl (g 0, 7, .inl (fun i => nI ((if k = 1 then zs_up S y x else S) i)))), (a 22, .inl (g 0, 7, .inl (fun i => nI ((if k = 2 then zs_up Q y x else Q) i)))), (a 23, .inl (g 2, 3024, .inl (if k = 4 then T else if k = 3 then zs_fill (fun _ => vp_nar .byte (nI 0)) T 3024 else zs_clw T y 21))), (a 4, .inr (0, [.int (nI d), .int (nI z), .ref (a 40), .ref (a 41), .ref (a 42), .ref (a 43)])), (a 40, .inl (g 0, 40, .inl (fun i => nI (N i)))), (a 41, .inl (g 0, 40, .inl (fun i => nI (A1 i)))), (a 42, .inl (g 0, 40, .inl (fun i => nI (O1 i)))), (a 43, .inl (g 0, 40, .inl (fun i => nI (F i))))]) (wr := [(a 4, .inr (0, [.int (nI d), .int (nI z), .ref (a 40), .ref (a 41), .ref (a 42), .ref (a 43)])), (a 40, .inl (g 0, 40, .inl (fun i => nI (N i)))), (a 41, .inl (g 0, 40, .inl (fun i => nI (A1 i)))), (a 42, .inl (g 0, 40, .inl (fun i => nI (O1 i)))), (a 43, .inl (g 0, 40, .inl (fun i => nI (F i))))]) ⟨rfl, rfl⟩ (zk_rv (As := [.int (nI y), .int (nI k), .int (nI x)]) (rest := []) (q0 := 0) (ci := 7) Z ((ct_X7_tell l D g τ a pic storm chance n hide ver ew ek P S Q T y k x (by omega) (by omega)) H.size) hK hT hA G [0, 1, 2, 3, 4, 5] rfl (by decide) rfl rfl gX7_mend_X7_tell rfl dvX7_tell ⟨by decide, by decide⟩ rfl hl.1 rfl (Nat.le_of_ble_eq_true rfl) dX7_mend_39 ⟨Nat.zero_le _, Nat.zero_le _⟩) hA G [0, 1, 2, 3, 4, 5] [6, 7, 8, 9, 10] [5, 6, 7, 8, 9, 10, 0, 1, 2, 3, 4] rfl rfl (by decide) (by decide) (by decide) (fun _ => rfl) (fun _ H locs w_39 G => ?_)
    refine lv_aload_n Z.1 Z.2.1 dX7_mend_42 rfl (lv_at hl 1 rfl) ?_
    refine zk_get (C := RX7) (T := TX7) (N := 11) (ci := 7) Z hK G hinX7 0 rfl rfl 3 (by decide) (List.mem_of_getElem? (i := 1) rfl) rfl (v := .ref (a 4)) rfl dX7_mend_43 ?_
    refine lv_iload_n Z.1 Z.2.1 dX7_mend_46 rfl (lv_at hl 2 rfl) ?_
    refine lv_iload_n Z.1 Z.2.1 dX7_mend_47 rfl (lv_at hl 3 rfl) ?_
    refine lv_iload Z.1 Z.2.1 dX7_mend_48 (lv_at hl 0 rfl) ?_
    refine lv_iload_n Z.1 Z.2.1 dX7_mend_50 rfl (lv_at hl 4 rfl) ?_
    refine zk_cv (WF := fun (_ : Unit) => [(a 0, .inr (7, [.ref (a 1), .ref (a 2), .ref (a 3), .ref (a 4), .ref (a 50), .ref (a 60), .ref (a 7), .ref (a 8), .int (zk_b pic), .int (nI (if k = 4 then x else storm)), .int chance])), (a 2, .inr (5, [.ref (a 20), .ref (a 21), .ref (a 22), .int (nI n), .int (nI (if k = 3 then x else hide)), .ref (a 1), .ref (a 23), .ref (a 24), .int (nI (if k = 4 then ver else ver + 1)), .int ew, .int (zk_b (if k = 4 then ek else false))])), (a 20, .inl (g 0, 7, .inl (fun i => nI ((if k = 0 then zs_up P y x else P) i)))), (a 21, .inl (g 0, 7, .inl (fun i => nI ((if k = 1 then zs_up S y x else S) i)))), (a 22, .inl (g 0, 7, .inl (fun i => nI ((if k = 2 then zs_up Q y x else Q) i)))), (a 23, .inl (g 2, 3024, .inl (if k = 4 then T else if k = 3 then zs_fill (fun _ => vp_nar .byte (nI 0)) T 3024 else zs_clw T y 21))), (a 4, .inr (0, [.int (nI (zc_d d + 1)), .int (nI (zc_d d + 1)), .ref (a 40), .ref (a 41), .ref (a 42), .ref (a 43)])), (a 40, .inl (g 0, 40, .inl (fun i => nI (zs_up (zc_f d N) (zc_d d) y i)))), (a 41, .inl (g 0, 40, .inl (fun i => nI (zs_up (zc_f d A1) (zc_d d) k i)))), (a 42, .inl (g 0, 40, .inl (fun i => nI (zs_up (zc_f d O1) (zc_d d) (zu_toldN P S Q hide storm y k) i)))), (a 43, .inl (g 0, 40, .inl (fun i => nI (zs_up (zc_f d F) (zc_d d) x i))))]) (wr := [(a 0, .inr (7, [.ref (a 1), .ref (a 2), .ref (a 3), .ref (a 4), .ref (a 50), .ref (a 60), .ref (a 7), .ref (a 8), .int (zk_b pic), .int (nI (if k = 4 then x else storm)), .int chance])), (a 2, .inr (5, [.ref (a 20), .ref (a 21), .ref (a 22), .int (nI n), .int (nI (if k = 3 then x else hide)), .ref (a 1), .ref (a 23), .ref (a 24), .int (nI (if k = 4 then ver else ver + 1)), .int ew, .int (zk_b (if k = 4 then ek else false))])), (a 20, .inl (g 0, 7, .inl (fun i => nI ((if k = 0 then zs_up P y x else P) i)))), (a 21, .inl (g 0, 7, .inl (fun i => nI ((if k = 1 then zs_up S y x else S) i)))), (a 22, .inl (g 0, 7, .inl (fun i => nI ((if k = 2 then zs_up Q y x else Q) i)))), (a 23, .inl (g 2, 3024, .inl (if k = 4 then T else if k = 3 then zs_fill (fun _ => vp_nar .byte (nI 0)) T 3024 else zs_clw T y 21)))]) ⟨rfl, rfl⟩ (zk_rv (As := [.int (nI y), .int (nI k), .int (nI (zu_toldN P S Q hide storm y k)), .int (nI x)]) (rest := []) (q0 := 6) (ci := 0) Z ((ct_X0_note l D g τ a d z N A1 O1 F y k (zu_toldN P S Q hide storm y k) x (by omega)) H.size) hK hT hA G [6, 7, 8, 9, 10] rfl (by decide) rfl rfl gX7_mend_X0_note rfl dvX0_note ⟨by decide, by decide⟩ rfl hl.1 rfl (Nat.le_of_ble_eq_true rfl) dX7_mend_51 ⟨Nat.zero_le _, Nat.zero_le _⟩) hA G [6, 7, 8, 9, 10] [0, 1, 2, 3, 4, 5] [0, 1, 2, 3, 4, 5, 6, 7, 8, 9, 10] rfl rfl (by decide) (by decide) (by decide) (fun _ => rfl) (fun _ H locs w_51 G => ?_)
    refine lv_iload Z.1 Z.2.1 dX7_mend_54 (lv_at hl 0 rfl) ?_
    have hok9 : (zu_mendable n (nI y) (nI k) && zu_fit P (nI y).toInt.toNat (nI k) (nI x)) = true := by rw [c6_0, zb_nat (by omega), c16_0]; rfl
    have hch : zu_chg n P S Q hide storm (nI y) (nI k) (nI x) = true := by simp only [zu_chg]; rw [hok9, zb_nat (by omega), hT9, decide_eq_true (zk_neqi (by omega) (by omega) c32)]; rfl
    exact zk_reti Z hR_ hlk hK hQ G ((if k = 3 then x else hide), (if k = 4 then x else storm), (if k = 4 then ver else ver + 1), (if k = 4 then ek else false), (if k = 0 then zs_up P y x else P), (if k = 1 then zs_up S y x else S), (if k = 2 then zs_up Q y x else Q), (if k = 4 then T else if k = 3 then zs_fill (fun _ => vp_nar .byte (nI 0)) T 3024 else zs_clw T y 21), zc_d d + 1, zs_up (zc_f d N) (zc_d d) y, zs_up (zc_f d A1) (zc_d d) k, zs_up (zc_f d O1) (zc_d d) (zu_toldN P S Q hide storm y k), zs_up (zc_f d F) (zc_d d) x) ⟨(by simp only [zu_mend]; rw [if_pos hok9, zb_nat (by omega), hT9]), (by rw [if_pos hch, zb_nat (show y < 2 ^ 31 by omega), zb_nat (show k < 2 ^ 31 by omega), zb_nat (show x < 2 ^ 31 by omega), hT9, zb_nat (show zu_toldN P S Q hide storm y k < 2 ^ 31 by omega)])⟩ (by rw [if_pos hch]) dX7_mend_56
  have c16 : zu_fit P y (nI k) v = false := zk_b0.mp c16
  refine lv_iconst (v := (-1)) Z.1 Z.2.1 dX7_mend_19 (by decide +kernel) ?_
  have hno : (zu_mendable n (nI y) (nI k) && zu_fit P (nI y).toInt.toNat (nI k) v) = false := by rw [zb_nat (by omega), c16, Bool.and_false]
  have hch : zu_chg n P S Q hide storm (nI y) (nI k) v = false := by unfold zu_chg; rw [hno, Bool.false_and]
  exact zk_reti Z hR_ hlk hK hQ G (hide, storm, ver, ek, P, S, Q, T, d, N, A1, O1, F) ⟨(by unfold zu_mend; rw [hno]; rfl), (by rw [if_neg (by rw [hch]; decide)])⟩ (by rw [if_neg (by rw [hch]; decide)]) dX7_mend_20

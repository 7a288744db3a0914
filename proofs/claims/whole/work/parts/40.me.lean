/-! The reference reads the law: its own stack. -/
def zm_tx (tb : Bool) (TP TX : Nat → Nat) : Nat → Nat := if tb then TP else TX
def zm_bs (tb : Bool) : Int32 := if tb then -1 else nI 0
def zm_em (NM : Nat → Int32) (c v : Nat) (st : List Int32) : List Int32 :=
  if c = 1 then nI v :: st else if c = 2 then NM v :: st else
  match st with
  | [] => []
  | y :: r => if c = 6 ∨ c = 5 then zl_op c y y :: r else (match r with | [] => [] | x :: q => zl_op c x y :: q)
def zm_post (R : zg_R (List Int32)) (r : Int32) (p : Nat) (ft : Int32) (op : Nat) (oq : Int32) (st : List Int32) : Prop := match R with | .inl e => p = e ∧ ft = nI e | .inr q => p = q.1 ∧ ft = -1 ∧ oq = nI op ∧ q.2 = r :: st
theorem zm_pl {R : zg_R (List Int32)} {r ft oq : Int32} {p op e : Nat} {st : List Int32} (h : zm_post R r p ft op oq st) (hr : R = .inl e) : p = e ∧ ft = nI e := by subst hr; exact h
theorem zm_pr {R : zg_R (List Int32)} {r ft oq : Int32} {p op : Nat} {q : Nat × List Int32} {st : List Int32} (h : zm_post R r p ft op oq st) (hr : R = .inr q) : p = q.1 ∧ ft = -1 ∧ oq = nI op ∧ q.2 = r :: st := by subst hr; exact h
theorem zm_fl {e : Nat} (h : e < 2 ^ 31) : decide (nI e < 0) = false := decide_eq_false (nI_pos h)
theorem zg_lev_0c {c : Nat} : zg_lev c = 0 ↔ c = 124 := by
  constructor
  · intro h; unfold zg_lev at h; by_cases h1 : c = 124
    · exact h1
    · rw [if_neg h1] at h; exfalso; revert h; repeat' split
      all_goals decide
  · rintro rfl; rfl
theorem zg_lev_1c {c : Nat} : zg_lev c = 1 ↔ c = 38 := by
  constructor
  · intro h; unfold zg_lev at h; by_cases h1 : c = 38
    · exact h1
    · exfalso; revert h; rw [if_neg h1]; repeat' split
      all_goals decide
  · rintro rfl; rfl
theorem zg_lev_2c {c : Nat} : zg_lev c = 2 ↔ (c = 60 ∨ c = 61 ∨ c = 62) := by
  constructor
  · intro h; unfold zg_lev at h; by_cases h1 : c = 60 ∨ c = 61 ∨ c = 62
    · exact h1
    · exfalso; revert h; rw [if_neg h1]; repeat' split
      all_goals decide
  · rintro (rfl | rfl | rfl) <;> rfl
theorem zg_lev_3c {c : Nat} : zg_lev c = 3 ↔ (c = 43 ∨ c = 45) := by
  constructor
  · intro h; unfold zg_lev at h; by_cases h1 : c = 43 ∨ c = 45
    · exact h1
    · exfalso; revert h; rw [if_neg h1]; repeat' split
      all_goals decide
  · rintro (rfl | rfl) <;> rfl
theorem zg_lev_4c {c : Nat} : zg_lev c = 4 ↔ (c = 42 ∨ c = 47 ∨ c = 37) := by
  constructor
  · intro h; unfold zg_lev at h; by_cases h1 : c = 42 ∨ c = 47 ∨ c = 37
    · exact h1
    · exfalso; revert h; rw [if_neg h1]; repeat' split
      all_goals decide
  · rintro (rfl | rfl | rfl) <;> rfl
def zm_ni (c : Nat) : Int32 := if zg_nam c < 6 then nI (zg_nam c) else -1
theorem zg_ni_c {c : Nat} (hc : c < 2 ^ 31) : zg_ni (nI c) = zm_ni c := by
  unfold zg_ni zm_ni zg_nam
  have k := fun (k : Nat) (h : k < 2 ^ 31) => nI_eq (a := c) (b := k) hc h
  simp only [k 100 (by decide), k 114 (by decide), k 113 (by decide), k 104 (by decide), k 97 (by decide), k 98 (by decide)]
  by_cases h1 : c = 100
  · subst h1; rfl
  by_cases h2 : c = 114
  · subst h2; rfl
  by_cases h3 : c = 113
  · subst h3; rfl
  by_cases h4 : c = 104
  · subst h4; rfl
  by_cases h5 : c = 97
  · subst h5; rfl
  by_cases h6 : c = 98
  · subst h6; rfl
  simp [h1, h2, h3, h4, h5, h6]

abbrev rm_X8_byteAt : Room := { frames := 0, cells := 0, slots := 0, locals := 0 }
theorem dvX8_byteAt : zk_dv yX8_byteAt RX8 0 := by decide +kernel
set_option maxRecDepth 100000 in
set_option maxHeartbeats 400000 in
theorem ct_X8_byteAt (l : Launch) (D : va_G) (g : Nat → ClassId) (τ : Nat → Nat) (b : Nat → Nat) (m : Nat → Int32) (ln : Nat) (p : Nat) (ft : Int32) (tb : Bool) (TP : Nat → Nat) (TX : Nat → Nat) (oq : Int32) (hln : ln ≤ 120) (hp : p ≤ ln) : zk_MI l D g τ yX8_byteAt wmX8_byteAt rm_X8_byteAt [.ref (b 100)] [(b 100, .inr (8, [.ref (b 0), .ref (b 1), .ref (b 2), .ref (b 3), .int (m 4), .int (m 5), .int (m 6), .int (m 7), .ref (b 8), .int (m 9), .ref (b 10), .int (m 11), .int (zm_bs tb), .int (nI p), .int (nI ln), .int ft, .int oq, .ref (b 17), .ref (b 18), .ref (b 19), .ref (b 20), .ref (b 21), .ref (b 22), .ref (b 23), .ref (b 24), .int (m 25), .int (m 26), .int (m 27), .int (m 28), .ref (b 29), .ref (b 30), .int (m 31), .int (m 32), .int (m 33), .int (m 34), .int (m 35), .ref (b 36), .ref (b 37), .int (m 38), .ref (b 39), .ref (b 40), .int (m 41), .int (m 42), .int (m 43), .ref (b 44), .ref (b 45), .ref (b 46), .ref (b 47)])), (b 8, .inl (g 0, 120, .inl (fun i => nI (TP i)))), (b 10, .inl (g 0, 120, .inl (fun i => nI (TX i))))] (fun (r : Int32) (_ : Unit) => r = nI (zg_c (zm_tx tb TP TX) ln p)) (fun (_ : Unit) => [(b 100, .inr (8, [.ref (b 0), .ref (b 1), .ref (b 2), .ref (b 3), .int (m 4), .int (m 5), .int (m 6), .int (m 7), .ref (b 8), .int (m 9), .ref (b 10), .int (m 11), .int (zm_bs tb), .int (nI p), .int (nI ln), .int ft, .int oq, .ref (b 17), .ref (b 18), .ref (b 19), .ref (b 20), .ref (b 21), .ref (b 22), .ref (b 23), .ref (b 24), .int (m 25), .int (m 26), .int (m 27), .int (m 28), .ref (b 29), .ref (b 30), .int (m 31), .int (m 32), .int (m 33), .int (m 34), .int (m 35), .ref (b 36), .ref (b 37), .int (m 38), .ref (b 39), .ref (b 40), .int (m 41), .int (m 42), .int (m 43), .ref (b 44), .ref (b 45), .ref (b 46), .ref (b 47)])), (b 8, .inl (g 0, 120, .inl (fun i => nI (TP i)))), (b 10, .inl (g 0, 120, .inl (fun i => nI (TX i))))]) := by
  refine zk_of (av := [.ref (b 100)]) (W0 := [(b 100, .inr (8, [.ref (b 0), .ref (b 1), .ref (b 2), .ref (b 3), .int (m 4), .int (m 5), .int (m 6), .int (m 7), .ref (b 8), .int (m 9), .ref (b 10), .int (m 11), .int (zm_bs tb), .int (nI p), .int (nI ln), .int ft, .int oq, .ref (b 17), .ref (b 18), .ref (b 19), .ref (b 20), .ref (b 21), .ref (b 22), .ref (b 23), .ref (b 24), .int (m 25), .int (m 26), .int (m 27), .int (m 28), .ref (b 29), .ref (b 30), .int (m 31), .int (m 32), .int (m 33), .int (m 34), .int (m 35), .ref (b 36), .ref (b 37), .int (m 38), .ref (b 39), .ref (b 40), .int (m 41), .int (m 42), .int (m 43), .ref (b 44), .ref (b 45), .ref (b 46), .ref (b 47)])), (b 8, .inl (g 0, 120, .inl (fun i => nI (TP i)))), (b 10, .inl (g 0, 120, .inl (fun i => nI (TX i))))]) (y := yX8_byteAt) (wd := wmX8_byteAt) (Qc := fun A => va_Qi (fun (r : Int32) (_ : Unit) => r = nI (zg_c (zm_tx tb TP TX) ln p)) (zk_B D g A (fun (_ : Unit) => [(b 100, .inr (8, [.ref (b 0), .ref (b 1), .ref (b 2), .ref (b 3), .int (m 4), .int (m 5), .int (m 6), .int (m 7), .ref (b 8), .int (m 9), .ref (b 10), .int (m 11), .int (zm_bs tb), .int (nI p), .int (nI ln), .int ft, .int oq, .ref (b 17), .ref (b 18), .ref (b 19), .ref (b 20), .ref (b 21), .ref (b 22), .ref (b 23), .ref (b 24), .int (m 25), .int (m 26), .int (m 27), .int (m 28), .ref (b 29), .ref (b 30), .int (m 31), .int (m 32), .int (m 33), .int (m 34), .int (m 35), .ref (b 36), .ref (b 37), .int (m 38), .ref (b 39), .ref (b 40), .int (m 41), .int (m 42), .int (m 43), .ref (b 44), .ref (b 45), .ref (b 46), .ref (b 47)])), (b 8, .inl (g 0, 120, .inl (fun i => nI (TP i)))), (b 10, .inl (g 0, 120, .inl (fun i => nI (TX i))))])) A) (cc := cX8_byteAt) (maxL := 1) (ret := (some .int)) (own := RX8) (by decide) rfl rfl (Nat.le_of_ble_eq_true rfl) ?_
  intro pP eE sS mM args below meth cC aA ls qQ Z hR_ hlk hnm hK hT hA hQ G hl
  have hinX8 : ∀ w ∈ u_ws RX8 TX8 48, w ∈ wmX8_byteAt := wa8_in
  refine lv_aload_n Z.1 Z.2.1 dX8_byteAt_0 rfl (lv_at hl 0 rfl) ?_
  refine zk_get (C := RX8) (T := TX8) (N := 48) (ci := 8) Z hK G hinX8 0 rfl rfl 13 (by decide) (List.mem_cons_of_mem _ wa8_101) rfl (v := .int (nI p)) rfl dX8_byteAt_1 ?_
  refine lv_aload_n Z.1 Z.2.1 dX8_byteAt_4 rfl (lv_at hl 0 rfl) ?_
  refine zk_get (C := RX8) (T := TX8) (N := 48) (ci := 8) Z hK G hinX8 0 rfl rfl 14 (by decide) (List.mem_cons_of_mem _ wa8_102) rfl (v := .int (nI ln)) rfl dX8_byteAt_5 ?_
  refine lv_icmp_ge (tgt := 47) Z.1 Z.2.1 dX8_byteAt_8 (by decide) (fun c8 => ?_) (fun c8 => ?_)
  · have c8 : ln ≤ p := zk_le (by omega) (by omega) c8
    refine lv_iconst (v := nI 0) Z.1 Z.2.1 dX8_byteAt_47 (by decide +kernel) ?_
    exact zk_reti Z hR_ hlk hK hQ G () (by unfold zg_c; rw [if_neg (Nat.not_lt.mpr c8)]) rfl dX8_byteAt_48
  have c8 : p < ln := zk_nle (by omega) (by omega) c8
  refine lv_aload_n Z.1 Z.2.1 dX8_byteAt_11 rfl (lv_at hl 0 rfl) ?_
  refine zk_get (C := RX8) (T := TX8) (N := 48) (ci := 8) Z hK G hinX8 0 rfl rfl 12 (by decide) (List.mem_cons_of_mem _ wa8_103) rfl (v := .int (zm_bs tb)) rfl dX8_byteAt_12 ?_
  refine lv_if_ge (tgt := 30) Z.1 Z.2.1 dX8_byteAt_15 (by decide) (fun c15 => ?_) (fun c15 => ?_)
  · have c15 : tb = false := by cases tb; rfl; exact absurd c15 (by decide)
    refine lv_aload_n Z.1 Z.2.1 dX8_byteAt_30 rfl (lv_at hl 0 rfl) ?_
    refine zk_get (C := RX8) (T := TX8) (N := 48) (ci := 8) Z hK G hinX8 0 rfl rfl 10 (by decide) (List.mem_cons_of_mem _ wa8_12) rfl (v := .ref (b 10)) rfl dX8_byteAt_31 ?_
    refine lv_aload_n Z.1 Z.2.1 dX8_byteAt_34 rfl (lv_at hl 0 rfl) ?_
    refine zk_get (C := RX8) (T := TX8) (N := 48) (ci := 8) Z hK G hinX8 0 rfl rfl 12 (by decide) (List.mem_cons_of_mem _ wa8_103) rfl (v := .int (zm_bs tb)) rfl dX8_byteAt_35 ?_
    refine lv_aload_n Z.1 Z.2.1 dX8_byteAt_38 rfl (lv_at hl 0 rfl) ?_
    refine zk_get (C := RX8) (T := TX8) (N := 48) (ci := 8) Z hK G hinX8 0 rfl rfl 13 (by decide) (List.mem_cons_of_mem _ wa8_101) rfl (v := .int (nI p)) rfl dX8_byteAt_39 ?_
    refine zk_iadd Z dX8_byteAt_42 (z := nI p) (by subst c15; exact (nI_add 0 p).trans (congrArg nI (Nat.zero_add p))) ?_
    refine zk_iald Z hK G 2 rfl (k := p) (by omega) (by decide) (v := nI (TX p)) rfl dX8_byteAt_43 ?_
    refine lv_goto (tgt := 48) Z.1 Z.2.1 dX8_byteAt_44 (by decide) ?_
    exact zk_reti Z hR_ hlk hK hQ G () (by subst c15; unfold zg_c; rw [if_pos c8]; rfl) rfl dX8_byteAt_48
  have c15 : tb = true := by cases tb; exact absurd (by decide) c15; rfl
  refine lv_aload_n Z.1 Z.2.1 dX8_byteAt_18 rfl (lv_at hl 0 rfl) ?_
  refine zk_get (C := RX8) (T := TX8) (N := 48) (ci := 8) Z hK G hinX8 0 rfl rfl 8 (by decide) (List.mem_cons_of_mem _ wa8_11) rfl (v := .ref (b 8)) rfl dX8_byteAt_19 ?_
  refine lv_aload_n Z.1 Z.2.1 dX8_byteAt_22 rfl (lv_at hl 0 rfl) ?_
  refine zk_get (C := RX8) (T := TX8) (N := 48) (ci := 8) Z hK G hinX8 0 rfl rfl 13 (by decide) (List.mem_cons_of_mem _ wa8_101) rfl (v := .int (nI p)) rfl dX8_byteAt_23 ?_
  refine zk_iald Z hK G 1 rfl (k := p) (by omega) (by decide) (v := nI (TP p)) rfl dX8_byteAt_26 ?_
  refine lv_goto (tgt := 48) Z.1 Z.2.1 dX8_byteAt_27 (by decide) ?_
  exact zk_reti Z hR_ hlk hK hQ G () (by subst c15; unfold zg_c; rw [if_pos c8]; rfl) rfl dX8_byteAt_48

abbrev rm_X8_wrong : Room := { frames := 0, cells := 0, slots := 0, locals := 0 }
theorem dvX8_wrong : zk_dv yX8_wrong RX8 0 := by decide +kernel
set_option maxRecDepth 100000 in
set_option maxHeartbeats 400000 in
theorem ct_X8_wrong (l : Launch) (D : va_G) (g : Nat → ClassId) (τ : Nat → Nat) (b : Nat → Nat) (m : Nat → Int32) (ln : Nat) (p : Nat) (ft : Int32) (tb : Bool) (oq : Int32)  : zk_MI l D g τ yX8_wrong wmX8_wrong rm_X8_wrong [.ref (b 100)] [(b 100, .inr (8, [.ref (b 0), .ref (b 1), .ref (b 2), .ref (b 3), .int (m 4), .int (m 5), .int (m 6), .int (m 7), .ref (b 8), .int (m 9), .ref (b 10), .int (m 11), .int (zm_bs tb), .int (nI p), .int (nI ln), .int ft, .int oq, .ref (b 17), .ref (b 18), .ref (b 19), .ref (b 20), .ref (b 21), .ref (b 22), .ref (b 23), .ref (b 24), .int (m 25), .int (m 26), .int (m 27), .int (m 28), .ref (b 29), .ref (b 30), .int (m 31), .int (m 32), .int (m 33), .int (m 34), .int (m 35), .ref (b 36), .ref (b 37), .int (m 38), .ref (b 39), .ref (b 40), .int (m 41), .int (m 42), .int (m 43), .ref (b 44), .ref (b 45), .ref (b 46), .ref (b 47)]))] (fun (r : Int32) (_ : Unit) => r = nI 0) (fun (_ : Unit) => [(b 100, .inr (8, [.ref (b 0), .ref (b 1), .ref (b 2), .ref (b 3), .int (m 4), .int (m 5), .int (m 6), .int (m 7), .ref (b 8), .int (m 9), .ref (b 10), .int (m 11), .int (zm_bs tb), .int (nI p), .int (nI ln), .int (if ft < 0 then nI p else ft), .int oq, .ref (b 17), .ref (b 18), .ref (b 19), .ref (b 20), .ref (b 21), .ref (b 22), .ref (b 23), .ref (b 24), .int (m 25), .int (m 26), .int (m 27), .int (m 28), .ref (b 29), .ref (b 30), .int (m 31), .int (m 32), .int (m 33), .int (m 34), .int (m 35), .ref (b 36), .ref (b 37), .int (m 38), .ref (b 39), .ref (b 40), .int (m 41), .int (m 42), .int (m 43), .ref (b 44), .ref (b 45), .ref (b 46), .ref (b 47)]))]) := by
  refine zk_of (av := [.ref (b 100)]) (W0 := [(b 100, .inr (8, [.ref (b 0), .ref (b 1), .ref (b 2), .ref (b 3), .int (m 4), .int (m 5), .int (m 6), .int (m 7), .ref (b 8), .int (m 9), .ref (b 10), .int (m 11), .int (zm_bs tb), .int (nI p), .int (nI ln), .int ft, .int oq, .ref (b 17), .ref (b 18), .ref (b 19), .ref (b 20), .ref (b 21), .ref (b 22), .ref (b 23), .ref (b 24), .int (m 25), .int (m 26), .int (m 27), .int (m 28), .ref (b 29), .ref (b 30), .int (m 31), .int (m 32), .int (m 33), .int (m 34), .int (m 35), .ref (b 36), .ref (b 37), .int (m 38), .ref (b 39), .ref (b 40), .int (m 41), .int (m 42), .int (m 43), .ref (b 44), .ref (b 45), .ref (b 46), .ref (b 47)]))]) (y := yX8_wrong) (wd := wmX8_wrong) (Qc := fun A => va_Qi (fun (r : Int32) (_ : Unit) => r = nI 0) (zk_B D g A (fun (_ : Unit) => [(b 100, .inr (8, [.ref (b 0), .ref (b 1), .ref (b 2), .ref (b 3), .int (m 4), .int (m 5), .int (m 6), .int (m 7), .ref (b 8), .int (m 9), .ref (b 10), .int (m 11), .int (zm_bs tb), .int (nI p), .int (nI ln), .int (if ft < 0 then nI p else ft), .int oq, .ref (b 17), .ref (b 18), .ref (b 19), .ref (b 20), .ref (b 21), .ref (b 22), .ref (b 23), .ref (b 24), .int (m 25), .int (m 26), .int (m 27), .int (m 28), .ref (b 29), .ref (b 30), .int (m 31), .int (m 32), .int (m 33), .int (m 34), .int (m 35), .ref (b 36), .ref (b 37), .int (m 38), .ref (b 39), .ref (b 40), .int (m 41), .int (m 42), .int (m 43), .ref (b 44), .ref (b 45), .ref (b 46), .ref (b 47)]))])) A) (cc := cX8_wrong) (maxL := 1) (ret := (some .int)) (own := RX8) (by decide) rfl rfl (Nat.le_of_ble_eq_true rfl) ?_
  intro pP eE sS mM args below meth cC aA ls qQ Z hR_ hlk hnm hK hT hA hQ G hl
  have hinX8 : ∀ w ∈ u_ws RX8 TX8 48, w ∈ wmX8_wrong := wa8_in
  refine lv_aload_n Z.1 Z.2.1 dX8_wrong_0 rfl (lv_at hl 0 rfl) ?_
  refine lv_aload_n Z.1 Z.2.1 dX8_wrong_1 rfl (lv_at hl 0 rfl) ?_
  refine zk_get (C := RX8) (T := TX8) (N := 48) (ci := 8) Z hK G hinX8 0 rfl rfl 15 (by decide) (List.mem_cons_of_mem _ wa8_105) rfl (v := .int ft) rfl dX8_wrong_2 ?_
  refine lv_if_ge (tgt := 15) Z.1 Z.2.1 dX8_wrong_5 (by decide) (fun c5 => ?_) (fun c5 => ?_)
  · have c5 : 0 ≤ ft := c5
    refine lv_aload_n Z.1 Z.2.1 dX8_wrong_15 rfl (lv_at hl 0 rfl) ?_
    refine zk_get (C := RX8) (T := TX8) (N := 48) (ci := 8) Z hK G hinX8 0 rfl rfl 15 (by decide) (List.mem_cons_of_mem _ wa8_105) rfl (v := .int ft) rfl dX8_wrong_16 ?_
    refine zk_put tyX8 tyX8_ok nmX8 (C := RX8) (T := TX8) (N := 48) (ci := 8) Z hK G hinX8 0 rfl rfl 15 (by decide) (List.mem_cons_of_mem _ wa8_105) rfl rfl rfl rfl (Nat.le_of_ble_eq_true rfl) (ws' := [(b 100, .inr (8, [.ref (b 0), .ref (b 1), .ref (b 2), .ref (b 3), .int (m 4), .int (m 5), .int (m 6), .int (m 7), .ref (b 8), .int (m 9), .ref (b 10), .int (m 11), .int (zm_bs tb), .int (nI p), .int (nI ln), .int ft, .int oq, .ref (b 17), .ref (b 18), .ref (b 19), .ref (b 20), .ref (b 21), .ref (b 22), .ref (b 23), .ref (b 24), .int (m 25), .int (m 26), .int (m 27), .int (m 28), .ref (b 29), .ref (b 30), .int (m 31), .int (m 32), .int (m 33), .int (m 34), .int (m 35), .ref (b 36), .ref (b 37), .int (m 38), .ref (b 39), .ref (b 40), .int (m 41), .int (m 42), .int (m 43), .ref (b 44), .ref (b 45), .ref (b 46), .ref (b 47)]))]) rfl dX8_wrong_19 (fun H locs G => ?_)
    refine lv_iconst (v := nI 0) Z.1 Z.2.1 dX8_wrong_22 (by decide +kernel) ?_
    exact zk_reti Z hR_ hlk hK hQ G () rfl (by rw [if_neg (Int32.not_lt.mpr c5)]) dX8_wrong_23
  have c5 : ¬ 0 ≤ ft := c5
  refine lv_aload_n Z.1 Z.2.1 dX8_wrong_8 rfl (lv_at hl 0 rfl) ?_
  refine zk_get (C := RX8) (T := TX8) (N := 48) (ci := 8) Z hK G hinX8 0 rfl rfl 13 (by decide) (List.mem_cons_of_mem _ wa8_101) rfl (v := .int (nI p)) rfl dX8_wrong_9 ?_
  refine lv_goto (tgt := 19) Z.1 Z.2.1 dX8_wrong_12 (by decide) ?_
  refine zk_put tyX8 tyX8_ok nmX8 (C := RX8) (T := TX8) (N := 48) (ci := 8) Z hK G hinX8 0 rfl rfl 15 (by decide) (List.mem_cons_of_mem _ wa8_105) rfl rfl rfl rfl (Nat.le_of_ble_eq_true rfl) (ws' := [(b 100, .inr (8, [.ref (b 0), .ref (b 1), .ref (b 2), .ref (b 3), .int (m 4), .int (m 5), .int (m 6), .int (m 7), .ref (b 8), .int (m 9), .ref (b 10), .int (m 11), .int (zm_bs tb), .int (nI p), .int (nI ln), .int (nI p), .int oq, .ref (b 17), .ref (b 18), .ref (b 19), .ref (b 20), .ref (b 21), .ref (b 22), .ref (b 23), .ref (b 24), .int (m 25), .int (m 26), .int (m 27), .int (m 28), .ref (b 29), .ref (b 30), .int (m 31), .int (m 32), .int (m 33), .int (m 34), .int (m 35), .ref (b 36), .ref (b 37), .int (m 38), .ref (b 39), .ref (b 40), .int (m 41), .int (m 42), .int (m 43), .ref (b 44), .ref (b 45), .ref (b 46), .ref (b 47)]))]) rfl dX8_wrong_19 (fun H locs G => ?_)
  refine lv_iconst (v := nI 0) Z.1 Z.2.1 dX8_wrong_22 (by decide +kernel) ?_
  exact zk_reti Z hR_ hlk hK hQ G () rfl (by rw [if_pos (Int32.not_le.mp c5)]) dX8_wrong_23

abbrev rm_X8_takes : Room := { frames := 1, cells := 0, slots := 0, locals := 20 }
theorem dvX8_takes : zk_dv yX8_takes RX8 1 := by decide +kernel
theorem gmX8_takes_X8_byteAt : GoodIn wmX8_takes (wsV RX8 176 RX8 yX8_byteAt wmX8_byteAt) := goodIn_app (wa8_w (List.forall_mem_cons.mpr ⟨wa8_107, List.forall_mem_cons.mpr ⟨wa8_108, List.forall_mem_cons.mpr ⟨wa8_109, List.forall_mem_cons.mpr ⟨wa8_43, fun _ h => absurd h List.not_mem_nil⟩⟩⟩⟩)) (wa8_sub wa8_100)
set_option maxRecDepth 100000 in
set_option maxHeartbeats 400000 in
theorem ct_X8_takes (l : Launch) (D : va_G) (g : Nat → ClassId) (τ : Nat → Nat) (b : Nat → Nat) (m : Nat → Int32) (ln : Nat) (p : Nat) (ft : Int32) (tb : Bool) (TP : Nat → Nat) (TX : Nat → Nat) (oq : Int32) (c9 : Nat) (hln : ln ≤ 120) (hp : p ≤ ln) (ht : ∀ i, (zm_tx tb TP TX) i < 256) (hc9 : c9 < 256) : zk_MI l D g τ yX8_takes wmX8_takes rm_X8_takes [.ref (b 100), .int (nI c9)] [(b 100, .inr (8, [.ref (b 0), .ref (b 1), .ref (b 2), .ref (b 3), .int (m 4), .int (m 5), .int (m 6), .int (m 7), .ref (b 8), .int (m 9), .ref (b 10), .int (m 11), .int (zm_bs tb), .int (nI p), .int (nI ln), .int ft, .int oq, .ref (b 17), .ref (b 18), .ref (b 19), .ref (b 20), .ref (b 21), .ref (b 22), .ref (b 23), .ref (b 24), .int (m 25), .int (m 26), .int (m 27), .int (m 28), .ref (b 29), .ref (b 30), .int (m 31), .int (m 32), .int (m 33), .int (m 34), .int (m 35), .ref (b 36), .ref (b 37), .int (m 38), .ref (b 39), .ref (b 40), .int (m 41), .int (m 42), .int (m 43), .ref (b 44), .ref (b 45), .ref (b 46), .ref (b 47)])), (b 8, .inl (g 0, 120, .inl (fun i => nI (TP i)))), (b 10, .inl (g 0, 120, .inl (fun i => nI (TX i))))] (fun (r : Int32) (_ : Unit) => r = zk_b (decide ((ft : Int32) < 0) && decide (zg_c (zm_tx tb TP TX) ln p = c9))) (fun (_ : Unit) => [(b 100, .inr (8, [.ref (b 0), .ref (b 1), .ref (b 2), .ref (b 3), .int (m 4), .int (m 5), .int (m 6), .int (m 7), .ref (b 8), .int (m 9), .ref (b 10), .int (m 11), .int (zm_bs tb), .int (nI (if (decide ((ft : Int32) < 0) && decide (zg_c (zm_tx tb TP TX) ln p = c9)) = true then p + 1 else p)), .int (nI ln), .int ft, .int oq, .ref (b 17), .ref (b 18), .ref (b 19), .ref (b 20), .ref (b 21), .ref (b 22), .ref (b 23), .ref (b 24), .int (m 25), .int (m 26), .int (m 27), .int (m 28), .ref (b 29), .ref (b 30), .int (m 31), .int (m 32), .int (m 33), .int (m 34), .int (m 35), .ref (b 36), .ref (b 37), .int (m 38), .ref (b 39), .ref (b 40), .int (m 41), .int (m 42), .int (m 43), .ref (b 44), .ref (b 45), .ref (b 46), .ref (b 47)])), (b 8, .inl (g 0, 120, .inl (fun i => nI (TP i)))), (b 10, .inl (g 0, 120, .inl (fun i => nI (TX i))))]) := by
  refine zk_of (av := [.ref (b 100), .int (nI c9)]) (W0 := [(b 100, .inr (8, [.ref (b 0), .ref (b 1), .ref (b 2), .ref (b 3), .int (m 4), .int (m 5), .int (m 6), .int (m 7), .ref (b 8), .int (m 9), .ref (b 10), .int (m 11), .int (zm_bs tb), .int (nI p), .int (nI ln), .int ft, .int oq, .ref (b 17), .ref (b 18), .ref (b 19), .ref (b 20), .ref (b 21), .ref (b 22), .ref (b 23), .ref (b 24), .int (m 25), .int (m 26), .int (m 27), .int (m 28), .ref (b 29), .ref (b 30), .int (m 31), .int (m 32), .int (m 33), .int (m 34), .int (m 35), .ref (b 36), .ref (b 37), .int (m 38), .ref (b 39), .ref (b 40), .int (m 41), .int (m 42), .int (m 43), .ref (b 44), .ref (b 45), .ref (b 46), .ref (b 47)])), (b 8, .inl (g 0, 120, .inl (fun i => nI (TP i)))), (b 10, .inl (g 0, 120, .inl (fun i => nI (TX i))))]) (y := yX8_takes) (wd := wmX8_takes) (Qc := fun A => va_Qi (fun (r : Int32) (_ : Unit) => r = zk_b (decide ((ft : Int32) < 0) && decide (zg_c (zm_tx tb TP TX) ln p = c9))) (zk_B D g A (fun (_ : Unit) => [(b 100, .inr (8, [.ref (b 0), .ref (b 1), .ref (b 2), .ref (b 3), .int (m 4), .int (m 5), .int (m 6), .int (m 7), .ref (b 8), .int (m 9), .ref (b 10), .int (m 11), .int (zm_bs tb), .int (nI (if (decide ((ft : Int32) < 0) && decide (zg_c (zm_tx tb TP TX) ln p = c9)) = true then p + 1 else p)), .int (nI ln), .int ft, .int oq, .ref (b 17), .ref (b 18), .ref (b 19), .ref (b 20), .ref (b 21), .ref (b 22), .ref (b 23), .ref (b 24), .int (m 25), .int (m 26), .int (m 27), .int (m 28), .ref (b 29), .ref (b 30), .int (m 31), .int (m 32), .int (m 33), .int (m 34), .int (m 35), .ref (b 36), .ref (b 37), .int (m 38), .ref (b 39), .ref (b 40), .int (m 41), .int (m 42), .int (m 43), .ref (b 44), .ref (b 45), .ref (b 46), .ref (b 47)])), (b 8, .inl (g 0, 120, .inl (fun i => nI (TP i)))), (b 10, .inl (g 0, 120, .inl (fun i => nI (TX i))))])) A) (cc := cX8_takes) (maxL := 2) (ret := (some .boolean)) (own := RX8) (by decide) rfl rfl (Nat.le_of_ble_eq_true rfl) ?_
  intro pP eE sS mM args below meth cC aA ls qQ Z hR_ hlk hnm hK hT hA hQ G hl
  have hinX8 : ∀ w ∈ u_ws RX8 TX8 48, w ∈ wmX8_takes := wa8_in
  have hc31 := zg_c_256 (ln := ln) ht p
  refine lv_aload_n Z.1 Z.2.1 dX8_takes_0 rfl (lv_at hl 0 rfl) ?_
  refine zk_get (C := RX8) (T := TX8) (N := 48) (ci := 8) Z hK G hinX8 0 rfl rfl 15 (by decide) (List.mem_cons_of_mem _ wa8_105) rfl (v := .int ft) rfl dX8_takes_1 ?_
  refine lv_if_ge (tgt := 15) Z.1 Z.2.1 dX8_takes_4 (by decide) (fun c4 => ?_) (fun c4 => ?_)
  · have c4 : 0 ≤ ft := c4
    refine lv_iconst (v := nI 0) Z.1 Z.2.1 dX8_takes_15 (by decide +kernel) ?_
    have hk9 : (decide ((ft : Int32) < 0) && decide (zg_c (zm_tx tb TP TX) ln p = c9)) = false := by rw [decide_eq_false (show ¬ ft < 0 from Int32.not_lt.mpr c4)]; simp
    refine W.eq (g2 := F0 mM 16 ls [.int (zk_b false)]) rfl ?_
    exact zk_retz Z hR_ hlk hK hQ G () (congrArg zk_b hk9.symm) (by rw [hk9]; rfl) dX8_takes_16
  have c4 : ¬ 0 ≤ ft := c4
  refine lv_aload_n Z.1 Z.2.1 dX8_takes_7 rfl (lv_at hl 0 rfl) ?_
  refine zk_ci (WF := fun (_ : Unit) => [(b 100, .inr (8, [.ref (b 0), .ref (b 1), .ref (b 2), .ref (b 3), .int (m 4), .int (m 5), .int (m 6), .int (m 7), .ref (b 8), .int (m 9), .ref (b 10), .int (m 11), .int (zm_bs tb), .int (nI p), .int (nI ln), .int ft, .int oq, .ref (b 17), .ref (b 18), .ref (b 19), .ref (b 20), .ref (b 21), .ref (b 22), .ref (b 23), .ref (b 24), .int (m 25), .int (m 26), .int (m 27), .int (m 28), .ref (b 29), .ref (b 30), .int (m 31), .int (m 32), .int (m 33), .int (m 34), .int (m 35), .ref (b 36), .ref (b 37), .int (m 38), .ref (b 39), .ref (b 40), .int (m 41), .int (m 42), .int (m 43), .ref (b 44), .ref (b 45), .ref (b 46), .ref (b 47)])), (b 8, .inl (g 0, 120, .inl (fun i => nI (TP i)))), (b 10, .inl (g 0, 120, .inl (fun i => nI (TX i))))]) (wr := []) ⟨rfl, rfl⟩ (zk_rv (As := []) (rest := []) (q0 := 0) (ci := 8) Z ((ct_X8_byteAt l D g τ b m ln p ft tb TP TX oq (by exact hln) (by exact hp)) sS.heap.size) hK hT hA G [0, 1, 2] rfl (by decide) rfl rfl gmX8_takes_X8_byteAt rfl dvX8_byteAt ⟨by decide, by decide⟩ rfl hl.1 rfl (Nat.le_of_ble_eq_true rfl) dX8_takes_8 ⟨Nat.zero_le _, Nat.zero_le _⟩) hA G [0, 1, 2] [] [0, 1, 2] rfl rfl (by decide) (by decide) (by decide) (fun _ => rfl) (fun r_8 _ H locs w_8 G => ?_)
  obtain rfl : r_8 = nI (zg_c (zm_tx tb TP TX) ln p) := w_8
  refine lv_iload_n Z.1 Z.2.1 dX8_takes_11 rfl (lv_at hl 1 rfl) ?_
  refine lv_icmp_eq (tgt := 17) Z.1 Z.2.1 dX8_takes_12 (by decide) (fun c12 => ?_) (fun c12 => ?_)
  · have c12 : zg_c (zm_tx tb TP TX) ln p = c9 := zk_eq (by omega) (by omega) c12
    refine lv_aload_n Z.1 Z.2.1 dX8_takes_17 rfl (lv_at hl 0 rfl) ?_
    refine lv_dup Z.1 Z.2.1 dX8_takes_18 rfl ?_
    refine zk_get (C := RX8) (T := TX8) (N := 48) (ci := 8) Z hK G hinX8 0 rfl rfl 13 (by decide) (List.mem_cons_of_mem _ wa8_101) rfl (v := .int (nI p)) rfl dX8_takes_19 ?_
    refine lv_iconst (v := nI 1) Z.1 Z.2.1 dX8_takes_22 (by decide +kernel) ?_
    refine zk_iadd Z dX8_takes_23 (z := nI (p + 1)) (nI_add _ _) ?_
    refine zk_put tyX8 tyX8_ok nmX8 (C := RX8) (T := TX8) (N := 48) (ci := 8) Z hK G hinX8 0 rfl rfl 13 (by decide) (List.mem_cons_of_mem _ wa8_101) rfl rfl rfl rfl (Nat.le_of_ble_eq_true rfl) (ws' := [(b 100, .inr (8, [.ref (b 0), .ref (b 1), .ref (b 2), .ref (b 3), .int (m 4), .int (m 5), .int (m 6), .int (m 7), .ref (b 8), .int (m 9), .ref (b 10), .int (m 11), .int (zm_bs tb), .int (nI (p + 1)), .int (nI ln), .int ft, .int oq, .ref (b 17), .ref (b 18), .ref (b 19), .ref (b 20), .ref (b 21), .ref (b 22), .ref (b 23), .ref (b 24), .int (m 25), .int (m 26), .int (m 27), .int (m 28), .ref (b 29), .ref (b 30), .int (m 31), .int (m 32), .int (m 33), .int (m 34), .int (m 35), .ref (b 36), .ref (b 37), .int (m 38), .ref (b 39), .ref (b 40), .int (m 41), .int (m 42), .int (m 43), .ref (b 44), .ref (b 45), .ref (b 46), .ref (b 47)])), (b 8, .inl (g 0, 120, .inl (fun i => nI (TP i)))), (b 10, .inl (g 0, 120, .inl (fun i => nI (TX i))))]) rfl dX8_takes_24 (fun H locs G => ?_)
    refine lv_iconst (v := nI 1) Z.1 Z.2.1 dX8_takes_27 (by decide +kernel) ?_
    have hk9 : (decide ((ft : Int32) < 0) && decide (zg_c (zm_tx tb TP TX) ln p = c9)) = true := by rw [decide_eq_true (Int32.not_le.mp c4), decide_eq_true c12]; rfl
    refine W.eq (g2 := F0 mM 28 ls [.int (zk_b true)]) rfl ?_
    exact zk_retz Z hR_ hlk hK hQ G () (congrArg zk_b hk9.symm) (by rw [if_pos hk9]) dX8_takes_28
  have c12 : zg_c (zm_tx tb TP TX) ln p ≠ c9 := zk_neq (by omega) (by omega) c12
  refine lv_iconst (v := nI 0) Z.1 Z.2.1 dX8_takes_15 (by decide +kernel) ?_
  have hk9 : (decide ((ft : Int32) < 0) && decide (zg_c (zm_tx tb TP TX) ln p = c9)) = false := by rw [decide_eq_false c12]; simp
  refine W.eq (g2 := F0 mM 16 ls [.int (zk_b false)]) rfl ?_
  exact zk_retz Z hR_ hlk hK hQ G () (congrArg zk_b hk9.symm) (by rw [hk9]; rfl) dX8_takes_16

abbrev rm_X8_nameOf : Room := { frames := 0, cells := 0, slots := 0, locals := 0 }
theorem dvX8_nameOf : zk_dv yX8_nameOf RX8 1 := by decide +kernel
set_option maxRecDepth 100000 in
set_option maxHeartbeats 400000 in
theorem ct_X8_nameOf (l : Launch) (D : va_G) (g : Nat → ClassId) (τ : Nat → Nat) (x : Int32)  : zk_MI l D g τ yX8_nameOf wmX8_nameOf rm_X8_nameOf [.int x] [] (fun (r : Int32) (_ : Unit) => r = zg_ni x) (fun (_ : Unit) => []) := by
  refine zk_of (av := [.int x]) (W0 := []) (y := yX8_nameOf) (wd := wmX8_nameOf) (Qc := fun A => va_Qi (fun (r : Int32) (_ : Unit) => r = zg_ni x) (zk_B D g A (fun (_ : Unit) => [])) A) (cc := cX8_nameOf) (maxL := 1) (ret := (some .int)) (own := RX8) (by decide) rfl rfl (Nat.le_of_ble_eq_true rfl) ?_
  intro pP eE sS mM args below meth cC aA ls qQ Z hR_ hlk hnm hK hT hA hQ G hl
  refine lv_iload_n Z.1 Z.2.1 dX8_nameOf_0 rfl (lv_at hl 0 rfl) ?_
  by_cases c1_97 : x = nI 97
  · subst c1_97
    refine lv_tableIn (tgt := 96) Z.1 Z.2.1 dX8_nameOf_1 (by decide) (by decide) (by rfl) (by decide) ?_
    refine lv_iconst (v := nI 4) Z.1 Z.2.1 dX8_nameOf_96 (by decide +kernel) ?_
    exact zk_reti Z hR_ hlk hK hQ G () (by decide) rfl dX8_nameOf_97
  by_cases c1_98 : x = nI 98
  · subst c1_98
    refine lv_tableIn (tgt := 98) Z.1 Z.2.1 dX8_nameOf_1 (by decide) (by decide) (by rfl) (by decide) ?_
    refine lv_iconst (v := nI 5) Z.1 Z.2.1 dX8_nameOf_98 (by decide +kernel) ?_
    exact zk_reti Z hR_ hlk hK hQ G () (by decide) rfl dX8_nameOf_99
  by_cases c1_99 : x = nI 99
  · subst c1_99
    refine lv_tableIn (tgt := 100) Z.1 Z.2.1 dX8_nameOf_1 (by decide) (by decide) (by rfl) (by decide) ?_
    refine lv_iconst (v := (-1)) Z.1 Z.2.1 dX8_nameOf_100 (by decide +kernel) ?_
    exact zk_reti Z hR_ hlk hK hQ G () (by decide) rfl dX8_nameOf_101
  by_cases c1_100 : x = nI 100
  · subst c1_100
    refine lv_tableIn (tgt := 88) Z.1 Z.2.1 dX8_nameOf_1 (by decide) (by decide) (by rfl) (by decide) ?_
    refine lv_iconst (v := nI 0) Z.1 Z.2.1 dX8_nameOf_88 (by decide +kernel) ?_
    exact zk_reti Z hR_ hlk hK hQ G () (by decide) rfl dX8_nameOf_89
  by_cases c1_101 : x = nI 101
  · subst c1_101
    refine lv_tableIn (tgt := 100) Z.1 Z.2.1 dX8_nameOf_1 (by decide) (by decide) (by rfl) (by decide) ?_
    refine lv_iconst (v := (-1)) Z.1 Z.2.1 dX8_nameOf_100 (by decide +kernel) ?_
    exact zk_reti Z hR_ hlk hK hQ G () (by decide) rfl dX8_nameOf_101
  by_cases c1_102 : x = nI 102
  · subst c1_102
    refine lv_tableIn (tgt := 100) Z.1 Z.2.1 dX8_nameOf_1 (by decide) (by decide) (by rfl) (by decide) ?_
    refine lv_iconst (v := (-1)) Z.1 Z.2.1 dX8_nameOf_100 (by decide +kernel) ?_
    exact zk_reti Z hR_ hlk hK hQ G () (by decide) rfl dX8_nameOf_101
  by_cases c1_103 : x = nI 103
  · subst c1_103
    refine lv_tableIn (tgt := 100) Z.1 Z.2.1 dX8_nameOf_1 (by decide) (by decide) (by rfl) (by decide) ?_
    refine lv_iconst (v := (-1)) Z.1 Z.2.1 dX8_nameOf_100 (by decide +kernel) ?_
    exact zk_reti Z hR_ hlk hK hQ G () (by decide) rfl dX8_nameOf_101
  by_cases c1_104 : x = nI 104
  · subst c1_104
    refine lv_tableIn (tgt := 94) Z.1 Z.2.1 dX8_nameOf_1 (by decide) (by decide) (by rfl) (by decide) ?_
    refine lv_iconst (v := nI 3) Z.1 Z.2.1 dX8_nameOf_94 (by decide +kernel) ?_
    exact zk_reti Z hR_ hlk hK hQ G () (by decide) rfl dX8_nameOf_95
  by_cases c1_105 : x = nI 105
  · subst c1_105
    refine lv_tableIn (tgt := 100) Z.1 Z.2.1 dX8_nameOf_1 (by decide) (by decide) (by rfl) (by decide) ?_
    refine lv_iconst (v := (-1)) Z.1 Z.2.1 dX8_nameOf_100 (by decide +kernel) ?_
    exact zk_reti Z hR_ hlk hK hQ G () (by decide) rfl dX8_nameOf_101
  by_cases c1_106 : x = nI 106
  · subst c1_106
    refine lv_tableIn (tgt := 100) Z.1 Z.2.1 dX8_nameOf_1 (by decide) (by decide) (by rfl) (by decide) ?_
    refine lv_iconst (v := (-1)) Z.1 Z.2.1 dX8_nameOf_100 (by decide +kernel) ?_
    exact zk_reti Z hR_ hlk hK hQ G () (by decide) rfl dX8_nameOf_101
  by_cases c1_107 : x = nI 107
  · subst c1_107
    refine lv_tableIn (tgt := 100) Z.1 Z.2.1 dX8_nameOf_1 (by decide) (by decide) (by rfl) (by decide) ?_
    refine lv_iconst (v := (-1)) Z.1 Z.2.1 dX8_nameOf_100 (by decide +kernel) ?_
    exact zk_reti Z hR_ hlk hK hQ G () (by decide) rfl dX8_nameOf_101
  by_cases c1_108 : x = nI 108
  · subst c1_108
    refine lv_tableIn (tgt := 100) Z.1 Z.2.1 dX8_nameOf_1 (by decide) (by decide) (by rfl) (by decide) ?_
    refine lv_iconst (v := (-1)) Z.1 Z.2.1 dX8_nameOf_100 (by decide +kernel) ?_
    exact zk_reti Z hR_ hlk hK hQ G () (by decide) rfl dX8_nameOf_101
  by_cases c1_109 : x = nI 109
  · subst c1_109
    refine lv_tableIn (tgt := 100) Z.1 Z.2.1 dX8_nameOf_1 (by decide) (by decide) (by rfl) (by decide) ?_
    refine lv_iconst (v := (-1)) Z.1 Z.2.1 dX8_nameOf_100 (by decide +kernel) ?_
    exact zk_reti Z hR_ hlk hK hQ G () (by decide) rfl dX8_nameOf_101
  by_cases c1_110 : x = nI 110
  · subst c1_110
    refine lv_tableIn (tgt := 100) Z.1 Z.2.1 dX8_nameOf_1 (by decide) (by decide) (by rfl) (by decide) ?_
    refine lv_iconst (v := (-1)) Z.1 Z.2.1 dX8_nameOf_100 (by decide +kernel) ?_
    exact zk_reti Z hR_ hlk hK hQ G () (by decide) rfl dX8_nameOf_101
  by_cases c1_111 : x = nI 111
  · subst c1_111
    refine lv_tableIn (tgt := 100) Z.1 Z.2.1 dX8_nameOf_1 (by decide) (by decide) (by rfl) (by decide) ?_
    refine lv_iconst (v := (-1)) Z.1 Z.2.1 dX8_nameOf_100 (by decide +kernel) ?_
    exact zk_reti Z hR_ hlk hK hQ G () (by decide) rfl dX8_nameOf_101
  by_cases c1_112 : x = nI 112
  · subst c1_112
    refine lv_tableIn (tgt := 100) Z.1 Z.2.1 dX8_nameOf_1 (by decide) (by decide) (by rfl) (by decide) ?_
    refine lv_iconst (v := (-1)) Z.1 Z.2.1 dX8_nameOf_100 (by decide +kernel) ?_
    exact zk_reti Z hR_ hlk hK hQ G () (by decide) rfl dX8_nameOf_101
  by_cases c1_113 : x = nI 113
  · subst c1_113
    refine lv_tableIn (tgt := 92) Z.1 Z.2.1 dX8_nameOf_1 (by decide) (by decide) (by rfl) (by decide) ?_
    refine lv_iconst (v := nI 2) Z.1 Z.2.1 dX8_nameOf_92 (by decide +kernel) ?_
    exact zk_reti Z hR_ hlk hK hQ G () (by decide) rfl dX8_nameOf_93
  by_cases c1_114 : x = nI 114
  · subst c1_114
    refine lv_tableIn (tgt := 90) Z.1 Z.2.1 dX8_nameOf_1 (by decide) (by decide) (by rfl) (by decide) ?_
    refine lv_iconst (v := nI 1) Z.1 Z.2.1 dX8_nameOf_90 (by decide +kernel) ?_
    exact zk_reti Z hR_ hlk hK hQ G () (by decide) rfl dX8_nameOf_91
  have c1_97' : ¬ x.toInt = 97 := lv_neT c1_97 (by decide)
  have c1_98' : ¬ x.toInt = 98 := lv_neT c1_98 (by decide)
  have c1_99' : ¬ x.toInt = 99 := lv_neT c1_99 (by decide)
  have c1_100' : ¬ x.toInt = 100 := lv_neT c1_100 (by decide)
  have c1_101' : ¬ x.toInt = 101 := lv_neT c1_101 (by decide)
  have c1_102' : ¬ x.toInt = 102 := lv_neT c1_102 (by decide)
  have c1_103' : ¬ x.toInt = 103 := lv_neT c1_103 (by decide)
  have c1_104' : ¬ x.toInt = 104 := lv_neT c1_104 (by decide)
  have c1_105' : ¬ x.toInt = 105 := lv_neT c1_105 (by decide)
  have c1_106' : ¬ x.toInt = 106 := lv_neT c1_106 (by decide)
  have c1_107' : ¬ x.toInt = 107 := lv_neT c1_107 (by decide)
  have c1_108' : ¬ x.toInt = 108 := lv_neT c1_108 (by decide)
  have c1_109' : ¬ x.toInt = 109 := lv_neT c1_109 (by decide)
  have c1_110' : ¬ x.toInt = 110 := lv_neT c1_110 (by decide)
  have c1_111' : ¬ x.toInt = 111 := lv_neT c1_111 (by decide)
  have c1_112' : ¬ x.toInt = 112 := lv_neT c1_112 (by decide)
  have c1_113' : ¬ x.toInt = 113 := lv_neT c1_113 (by decide)
  have c1_114' : ¬ x.toInt = 114 := lv_neT c1_114 (by decide)
  refine lv_tableOut (tgt := 100) Z.1 Z.2.1 dX8_nameOf_1 (by omega) (by decide) ?_
  refine lv_iconst (v := (-1)) Z.1 Z.2.1 dX8_nameOf_100 (by decide +kernel) ?_
  exact zk_reti Z hR_ hlk hK hQ G () (by unfold zg_ni; rw [if_neg c1_100, if_neg c1_114, if_neg c1_113, if_neg c1_104, if_neg c1_97, if_neg c1_98]) rfl dX8_nameOf_101

abbrev rm_X8_either (d : Nat) : Room := { frames := d + 5, cells := 0, slots := 0, locals := 60 * d + 150 }
theorem dvX8_either : zk_dv yX8_either RX8 0 := by decide +kernel
abbrev rm_X8_both (d : Nat) : Room := { frames := d + 5, cells := 0, slots := 0, locals := 60 * d + 150 }
theorem dvX8_both : zk_dv yX8_both RX8 0 := by decide +kernel
abbrev rm_X8_compared (d : Nat) : Room := { frames := d + 5, cells := 0, slots := 0, locals := 60 * d + 150 }
theorem dvX8_compared : zk_dv yX8_compared RX8 0 := by decide +kernel
abbrev rm_X8_sums (d : Nat) : Room := { frames := d + 5, cells := 0, slots := 0, locals := 60 * d + 150 }
theorem dvX8_sums : zk_dv yX8_sums RX8 0 := by decide +kernel
abbrev rm_X8_product (d : Nat) : Room := { frames := d + 5, cells := 0, slots := 0, locals := 60 * d + 150 }
theorem dvX8_product : zk_dv yX8_product RX8 0 := by decide +kernel
abbrev rm_X8_one (d : Nat) : Room := { frames := d + 5, cells := 0, slots := 0, locals := 60 * d + 150 }
theorem dvX8_one : zk_dv yX8_one RX8 0 := by decide +kernel
def zm_L0 (l : Launch) (D : va_G) (g : Nat → ClassId) (τ : Nat → Nat) (d : Nat) : Prop := ∀ (b : Nat → Nat) (m : Nat → Int32) (ln : Nat) (p : Nat) (op : Nat) (tb : Bool) (TP : Nat → Nat) (TX : Nat → Nat) (NM : Nat → Int32) (ST : List Int32), (ln ≤ 120) → (p ≤ ln) → (∀ i, (zm_tx tb TP TX) i < 256) → (op ≤ 6) → (6 * (7 - op) ≤ d + 0) → zk_MI l D g τ yX8_either wmX8_either (rm_X8_either d) [.ref (b 100)] [(b 100, .inr (8, [.ref (b 0), .ref (b 1), .ref (b 2), .ref (b 3), .int (m 4), .int (m 5), .int (m 6), .int (m 7), .ref (b 8), .int (m 9), .ref (b 10), .int (m 11), .int (zm_bs tb), .int (nI p), .int (nI ln), .int (-1), .int (nI op), .ref (b 17), .ref (b 18), .ref (b 19), .ref (b 20), .ref (b 21), .ref (b 22), .ref (b 23), .ref (b 24), .int (m 25), .int (m 26), .int (m 27), .int (m 28), .ref (b 29), .ref (b 30), .int (m 31), .int (m 32), .int (m 33), .int (m 34), .int (m 35), .ref (b 36), .ref (b 37), .int (m 38), .ref (b 39), .ref (b 40), .int (m 41), .int (m 42), .int (m 43), .ref (b 44), .ref (b 45), .ref (b 46), .ref (b 47)])), (b 8, .inl (g 0, 120, .inl (fun i => nI (TP i)))), (b 10, .inl (g 0, 120, .inl (fun i => nI (TX i)))), (b 17, .inl (g 0, 6, .inl NM))] (fun (r : Int32) (uu : Nat × Int32 × Int32) => zm_post (zg (zm_tx tb TP TX) ln (zm_em NM) d 0 op p ST) r uu.1 uu.2.1 op uu.2.2 ST) (fun (uu : Nat × Int32 × Int32) => [(b 100, .inr (8, [.ref (b 0), .ref (b 1), .ref (b 2), .ref (b 3), .int (m 4), .int (m 5), .int (m 6), .int (m 7), .ref (b 8), .int (m 9), .ref (b 10), .int (m 11), .int (zm_bs tb), .int (nI uu.1), .int (nI ln), .int uu.2.1, .int uu.2.2, .ref (b 17), .ref (b 18), .ref (b 19), .ref (b 20), .ref (b 21), .ref (b 22), .ref (b 23), .ref (b 24), .int (m 25), .int (m 26), .int (m 27), .int (m 28), .ref (b 29), .ref (b 30), .int (m 31), .int (m 32), .int (m 33), .int (m 34), .int (m 35), .ref (b 36), .ref (b 37), .int (m 38), .ref (b 39), .ref (b 40), .int (m 41), .int (m 42), .int (m 43), .ref (b 44), .ref (b 45), .ref (b 46), .ref (b 47)])), (b 8, .inl (g 0, 120, .inl (fun i => nI (TP i)))), (b 10, .inl (g 0, 120, .inl (fun i => nI (TX i)))), (b 17, .inl (g 0, 6, .inl NM))])
def zm_L1 (l : Launch) (D : va_G) (g : Nat → ClassId) (τ : Nat → Nat) (d : Nat) : Prop := ∀ (b : Nat → Nat) (m : Nat → Int32) (ln : Nat) (p : Nat) (op : Nat) (tb : Bool) (TP : Nat → Nat) (TX : Nat → Nat) (NM : Nat → Int32) (ST : List Int32), (ln ≤ 120) → (p ≤ ln) → (∀ i, (zm_tx tb TP TX) i < 256) → (op ≤ 6) → (6 * (7 - op) ≤ d + 1) → zk_MI l D g τ yX8_both wmX8_both (rm_X8_both d) [.ref (b 100)] [(b 100, .inr (8, [.ref (b 0), .ref (b 1), .ref (b 2), .ref (b 3), .int (m 4), .int (m 5), .int (m 6), .int (m 7), .ref (b 8), .int (m 9), .ref (b 10), .int (m 11), .int (zm_bs tb), .int (nI p), .int (nI ln), .int (-1), .int (nI op), .ref (b 17), .ref (b 18), .ref (b 19), .ref (b 20), .ref (b 21), .ref (b 22), .ref (b 23), .ref (b 24), .int (m 25), .int (m 26), .int (m 27), .int (m 28), .ref (b 29), .ref (b 30), .int (m 31), .int (m 32), .int (m 33), .int (m 34), .int (m 35), .ref (b 36), .ref (b 37), .int (m 38), .ref (b 39), .ref (b 40), .int (m 41), .int (m 42), .int (m 43), .ref (b 44), .ref (b 45), .ref (b 46), .ref (b 47)])), (b 8, .inl (g 0, 120, .inl (fun i => nI (TP i)))), (b 10, .inl (g 0, 120, .inl (fun i => nI (TX i)))), (b 17, .inl (g 0, 6, .inl NM))] (fun (r : Int32) (uu : Nat × Int32 × Int32) => zm_post (zg (zm_tx tb TP TX) ln (zm_em NM) d 1 op p ST) r uu.1 uu.2.1 op uu.2.2 ST) (fun (uu : Nat × Int32 × Int32) => [(b 100, .inr (8, [.ref (b 0), .ref (b 1), .ref (b 2), .ref (b 3), .int (m 4), .int (m 5), .int (m 6), .int (m 7), .ref (b 8), .int (m 9), .ref (b 10), .int (m 11), .int (zm_bs tb), .int (nI uu.1), .int (nI ln), .int uu.2.1, .int uu.2.2, .ref (b 17), .ref (b 18), .ref (b 19), .ref (b 20), .ref (b 21), .ref (b 22), .ref (b 23), .ref (b 24), .int (m 25), .int (m 26), .int (m 27), .int (m 28), .ref (b 29), .ref (b 30), .int (m 31), .int (m 32), .int (m 33), .int (m 34), .int (m 35), .ref (b 36), .ref (b 37), .int (m 38), .ref (b 39), .ref (b 40), .int (m 41), .int (m 42), .int (m 43), .ref (b 44), .ref (b 45), .ref (b 46), .ref (b 47)])), (b 8, .inl (g 0, 120, .inl (fun i => nI (TP i)))), (b 10, .inl (g 0, 120, .inl (fun i => nI (TX i)))), (b 17, .inl (g 0, 6, .inl NM))])
def zm_L2 (l : Launch) (D : va_G) (g : Nat → ClassId) (τ : Nat → Nat) (d : Nat) : Prop := ∀ (b : Nat → Nat) (m : Nat → Int32) (ln : Nat) (p : Nat) (op : Nat) (tb : Bool) (TP : Nat → Nat) (TX : Nat → Nat) (NM : Nat → Int32) (ST : List Int32), (ln ≤ 120) → (p ≤ ln) → (∀ i, (zm_tx tb TP TX) i < 256) → (op ≤ 6) → (6 * (7 - op) ≤ d + 2) → zk_MI l D g τ yX8_compared wmX8_compared (rm_X8_compared d) [.ref (b 100)] [(b 100, .inr (8, [.ref (b 0), .ref (b 1), .ref (b 2), .ref (b 3), .int (m 4), .int (m 5), .int (m 6), .int (m 7), .ref (b 8), .int (m 9), .ref (b 10), .int (m 11), .int (zm_bs tb), .int (nI p), .int (nI ln), .int (-1), .int (nI op), .ref (b 17), .ref (b 18), .ref (b 19), .ref (b 20), .ref (b 21), .ref (b 22), .ref (b 23), .ref (b 24), .int (m 25), .int (m 26), .int (m 27), .int (m 28), .ref (b 29), .ref (b 30), .int (m 31), .int (m 32), .int (m 33), .int (m 34), .int (m 35), .ref (b 36), .ref (b 37), .int (m 38), .ref (b 39), .ref (b 40), .int (m 41), .int (m 42), .int (m 43), .ref (b 44), .ref (b 45), .ref (b 46), .ref (b 47)])), (b 8, .inl (g 0, 120, .inl (fun i => nI (TP i)))), (b 10, .inl (g 0, 120, .inl (fun i => nI (TX i)))), (b 17, .inl (g 0, 6, .inl NM))] (fun (r : Int32) (uu : Nat × Int32 × Int32) => zm_post (zg (zm_tx tb TP TX) ln (zm_em NM) d 2 op p ST) r uu.1 uu.2.1 op uu.2.2 ST) (fun (uu : Nat × Int32 × Int32) => [(b 100, .inr (8, [.ref (b 0), .ref (b 1), .ref (b 2), .ref (b 3), .int (m 4), .int (m 5), .int (m 6), .int (m 7), .ref (b 8), .int (m 9), .ref (b 10), .int (m 11), .int (zm_bs tb), .int (nI uu.1), .int (nI ln), .int uu.2.1, .int uu.2.2, .ref (b 17), .ref (b 18), .ref (b 19), .ref (b 20), .ref (b 21), .ref (b 22), .ref (b 23), .ref (b 24), .int (m 25), .int (m 26), .int (m 27), .int (m 28), .ref (b 29), .ref (b 30), .int (m 31), .int (m 32), .int (m 33), .int (m 34), .int (m 35), .ref (b 36), .ref (b 37), .int (m 38), .ref (b 39), .ref (b 40), .int (m 41), .int (m 42), .int (m 43), .ref (b 44), .ref (b 45), .ref (b 46), .ref (b 47)])), (b 8, .inl (g 0, 120, .inl (fun i => nI (TP i)))), (b 10, .inl (g 0, 120, .inl (fun i => nI (TX i)))), (b 17, .inl (g 0, 6, .inl NM))])
def zm_L3 (l : Launch) (D : va_G) (g : Nat → ClassId) (τ : Nat → Nat) (d : Nat) : Prop := ∀ (b : Nat → Nat) (m : Nat → Int32) (ln : Nat) (p : Nat) (op : Nat) (tb : Bool) (TP : Nat → Nat) (TX : Nat → Nat) (NM : Nat → Int32) (ST : List Int32), (ln ≤ 120) → (p ≤ ln) → (∀ i, (zm_tx tb TP TX) i < 256) → (op ≤ 6) → (6 * (7 - op) ≤ d + 3) → zk_MI l D g τ yX8_sums wmX8_sums (rm_X8_sums d) [.ref (b 100)] [(b 100, .inr (8, [.ref (b 0), .ref (b 1), .ref (b 2), .ref (b 3), .int (m 4), .int (m 5), .int (m 6), .int (m 7), .ref (b 8), .int (m 9), .ref (b 10), .int (m 11), .int (zm_bs tb), .int (nI p), .int (nI ln), .int (-1), .int (nI op), .ref (b 17), .ref (b 18), .ref (b 19), .ref (b 20), .ref (b 21), .ref (b 22), .ref (b 23), .ref (b 24), .int (m 25), .int (m 26), .int (m 27), .int (m 28), .ref (b 29), .ref (b 30), .int (m 31), .int (m 32), .int (m 33), .int (m 34), .int (m 35), .ref (b 36), .ref (b 37), .int (m 38), .ref (b 39), .ref (b 40), .int (m 41), .int (m 42), .int (m 43), .ref (b 44), .ref (b 45), .ref (b 46), .ref (b 47)])), (b 8, .inl (g 0, 120, .inl (fun i => nI (TP i)))), (b 10, .inl (g 0, 120, .inl (fun i => nI (TX i)))), (b 17, .inl (g 0, 6, .inl NM))] (fun (r : Int32) (uu : Nat × Int32 × Int32) => zm_post (zg (zm_tx tb TP TX) ln (zm_em NM) d 3 op p ST) r uu.1 uu.2.1 op uu.2.2 ST) (fun (uu : Nat × Int32 × Int32) => [(b 100, .inr (8, [.ref (b 0), .ref (b 1), .ref (b 2), .ref (b 3), .int (m 4), .int (m 5), .int (m 6), .int (m 7), .ref (b 8), .int (m 9), .ref (b 10), .int (m 11), .int (zm_bs tb), .int (nI uu.1), .int (nI ln), .int uu.2.1, .int uu.2.2, .ref (b 17), .ref (b 18), .ref (b 19), .ref (b 20), .ref (b 21), .ref (b 22), .ref (b 23), .ref (b 24), .int (m 25), .int (m 26), .int (m 27), .int (m 28), .ref (b 29), .ref (b 30), .int (m 31), .int (m 32), .int (m 33), .int (m 34), .int (m 35), .ref (b 36), .ref (b 37), .int (m 38), .ref (b 39), .ref (b 40), .int (m 41), .int (m 42), .int (m 43), .ref (b 44), .ref (b 45), .ref (b 46), .ref (b 47)])), (b 8, .inl (g 0, 120, .inl (fun i => nI (TP i)))), (b 10, .inl (g 0, 120, .inl (fun i => nI (TX i)))), (b 17, .inl (g 0, 6, .inl NM))])
def zm_L4 (l : Launch) (D : va_G) (g : Nat → ClassId) (τ : Nat → Nat) (d : Nat) : Prop := ∀ (b : Nat → Nat) (m : Nat → Int32) (ln : Nat) (p : Nat) (op : Nat) (tb : Bool) (TP : Nat → Nat) (TX : Nat → Nat) (NM : Nat → Int32) (ST : List Int32), (ln ≤ 120) → (p ≤ ln) → (∀ i, (zm_tx tb TP TX) i < 256) → (op ≤ 6) → (6 * (7 - op) ≤ d + 4) → zk_MI l D g τ yX8_product wmX8_product (rm_X8_product d) [.ref (b 100)] [(b 100, .inr (8, [.ref (b 0), .ref (b 1), .ref (b 2), .ref (b 3), .int (m 4), .int (m 5), .int (m 6), .int (m 7), .ref (b 8), .int (m 9), .ref (b 10), .int (m 11), .int (zm_bs tb), .int (nI p), .int (nI ln), .int (-1), .int (nI op), .ref (b 17), .ref (b 18), .ref (b 19), .ref (b 20), .ref (b 21), .ref (b 22), .ref (b 23), .ref (b 24), .int (m 25), .int (m 26), .int (m 27), .int (m 28), .ref (b 29), .ref (b 30), .int (m 31), .int (m 32), .int (m 33), .int (m 34), .int (m 35), .ref (b 36), .ref (b 37), .int (m 38), .ref (b 39), .ref (b 40), .int (m 41), .int (m 42), .int (m 43), .ref (b 44), .ref (b 45), .ref (b 46), .ref (b 47)])), (b 8, .inl (g 0, 120, .inl (fun i => nI (TP i)))), (b 10, .inl (g 0, 120, .inl (fun i => nI (TX i)))), (b 17, .inl (g 0, 6, .inl NM))] (fun (r : Int32) (uu : Nat × Int32 × Int32) => zm_post (zg (zm_tx tb TP TX) ln (zm_em NM) d 4 op p ST) r uu.1 uu.2.1 op uu.2.2 ST) (fun (uu : Nat × Int32 × Int32) => [(b 100, .inr (8, [.ref (b 0), .ref (b 1), .ref (b 2), .ref (b 3), .int (m 4), .int (m 5), .int (m 6), .int (m 7), .ref (b 8), .int (m 9), .ref (b 10), .int (m 11), .int (zm_bs tb), .int (nI uu.1), .int (nI ln), .int uu.2.1, .int uu.2.2, .ref (b 17), .ref (b 18), .ref (b 19), .ref (b 20), .ref (b 21), .ref (b 22), .ref (b 23), .ref (b 24), .int (m 25), .int (m 26), .int (m 27), .int (m 28), .ref (b 29), .ref (b 30), .int (m 31), .int (m 32), .int (m 33), .int (m 34), .int (m 35), .ref (b 36), .ref (b 37), .int (m 38), .ref (b 39), .ref (b 40), .int (m 41), .int (m 42), .int (m 43), .ref (b 44), .ref (b 45), .ref (b 46), .ref (b 47)])), (b 8, .inl (g 0, 120, .inl (fun i => nI (TP i)))), (b 10, .inl (g 0, 120, .inl (fun i => nI (TX i)))), (b 17, .inl (g 0, 6, .inl NM))])
def zm_L5 (l : Launch) (D : va_G) (g : Nat → ClassId) (τ : Nat → Nat) (d : Nat) : Prop := ∀ (b : Nat → Nat) (m : Nat → Int32) (ln : Nat) (p : Nat) (op : Nat) (tb : Bool) (TP : Nat → Nat) (TX : Nat → Nat) (NM : Nat → Int32) (ST : List Int32), (ln ≤ 120) → (p ≤ ln) → (∀ i, (zm_tx tb TP TX) i < 256) → (op ≤ 6) → (6 * (7 - op) ≤ d + 5) → zk_MI l D g τ yX8_one wmX8_one (rm_X8_one d) [.ref (b 100)] [(b 100, .inr (8, [.ref (b 0), .ref (b 1), .ref (b 2), .ref (b 3), .int (m 4), .int (m 5), .int (m 6), .int (m 7), .ref (b 8), .int (m 9), .ref (b 10), .int (m 11), .int (zm_bs tb), .int (nI p), .int (nI ln), .int (-1), .int (nI op), .ref (b 17), .ref (b 18), .ref (b 19), .ref (b 20), .ref (b 21), .ref (b 22), .ref (b 23), .ref (b 24), .int (m 25), .int (m 26), .int (m 27), .int (m 28), .ref (b 29), .ref (b 30), .int (m 31), .int (m 32), .int (m 33), .int (m 34), .int (m 35), .ref (b 36), .ref (b 37), .int (m 38), .ref (b 39), .ref (b 40), .int (m 41), .int (m 42), .int (m 43), .ref (b 44), .ref (b 45), .ref (b 46), .ref (b 47)])), (b 8, .inl (g 0, 120, .inl (fun i => nI (TP i)))), (b 10, .inl (g 0, 120, .inl (fun i => nI (TX i)))), (b 17, .inl (g 0, 6, .inl NM))] (fun (r : Int32) (uu : Nat × Int32 × Int32) => zm_post (zg (zm_tx tb TP TX) ln (zm_em NM) d 5 op p ST) r uu.1 uu.2.1 op uu.2.2 ST) (fun (uu : Nat × Int32 × Int32) => [(b 100, .inr (8, [.ref (b 0), .ref (b 1), .ref (b 2), .ref (b 3), .int (m 4), .int (m 5), .int (m 6), .int (m 7), .ref (b 8), .int (m 9), .ref (b 10), .int (m 11), .int (zm_bs tb), .int (nI uu.1), .int (nI ln), .int uu.2.1, .int uu.2.2, .ref (b 17), .ref (b 18), .ref (b 19), .ref (b 20), .ref (b 21), .ref (b 22), .ref (b 23), .ref (b 24), .int (m 25), .int (m 26), .int (m 27), .int (m 28), .ref (b 29), .ref (b 30), .int (m 31), .int (m 32), .int (m 33), .int (m 34), .int (m 35), .ref (b 36), .ref (b 37), .int (m 38), .ref (b 39), .ref (b 40), .int (m 41), .int (m 42), .int (m 43), .ref (b 44), .ref (b 45), .ref (b 46), .ref (b 47)])), (b 8, .inl (g 0, 120, .inl (fun i => nI (TP i)))), (b 10, .inl (g 0, 120, .inl (fun i => nI (TX i)))), (b 17, .inl (g 0, 6, .inl NM))])
theorem gmX8_either_X8_both : GoodIn wmX8_either (wsV RX8 180 RX8 yX8_both wmX8_both) := goodIn_app (wa8_w (List.forall_mem_cons.mpr ⟨wa8_111, List.forall_mem_cons.mpr ⟨wa8_112, List.forall_mem_cons.mpr ⟨wa8_113, List.forall_mem_cons.mpr ⟨wa8_43, fun _ h => absurd h List.not_mem_nil⟩⟩⟩⟩)) (wa8_sub wa8_117)
theorem gmX8_either_X8_takes : GoodIn wmX8_either (wsV RX8 183 RX8 yX8_takes wmX8_takes) := goodIn_app (wa8_w (List.forall_mem_cons.mpr ⟨wa8_114, List.forall_mem_cons.mpr ⟨wa8_115, List.forall_mem_cons.mpr ⟨wa8_116, List.forall_mem_cons.mpr ⟨wa8_43, fun _ h => absurd h List.not_mem_nil⟩⟩⟩⟩)) (wa8_sub wa8_106)
set_option maxRecDepth 100000 in
set_option maxHeartbeats 2000000 in
theorem ct_X8_either_s (l : Launch) (D : va_G) (g : Nat → ClassId) (τ : Nat → Nat) (d : Nat) (ih : zm_L0 l D g τ d ∧ zm_L1 l D g τ d ∧ zm_L2 l D g τ d ∧ zm_L3 l D g τ d ∧ zm_L4 l D g τ d ∧ zm_L5 l D g τ d) : zm_L0 l D g τ (d + 1) := by
  intro b m ln p op tb TP TX NM ST hln hp ht hop hd
  refine zk_of (av := [.ref (b 100)]) (W0 := [(b 100, .inr (8, [.ref (b 0), .ref (b 1), .ref (b 2), .ref (b 3), .int (m 4), .int (m 5), .int (m 6), .int (m 7), .ref (b 8), .int (m 9), .ref (b 10), .int (m 11), .int (zm_bs tb), .int (nI p), .int (nI ln), .int (-1), .int (nI op), .ref (b 17), .ref (b 18), .ref (b 19), .ref (b 20), .ref (b 21), .ref (b 22), .ref (b 23), .ref (b 24), .int (m 25), .int (m 26), .int (m 27), .int (m 28), .ref (b 29), .ref (b 30), .int (m 31), .int (m 32), .int (m 33), .int (m 34), .int (m 35), .ref (b 36), .ref (b 37), .int (m 38), .ref (b 39), .ref (b 40), .int (m 41), .int (m 42), .int (m 43), .ref (b 44), .ref (b 45), .ref (b 46), .ref (b 47)])), (b 8, .inl (g 0, 120, .inl (fun i => nI (TP i)))), (b 10, .inl (g 0, 120, .inl (fun i => nI (TX i)))), (b 17, .inl (g 0, 6, .inl NM))]) (y := yX8_either) (wd := wmX8_either) (Qc := fun A => va_Qi (fun (r : Int32) (uu : Nat × Int32 × Int32) => zm_post (zg (zm_tx tb TP TX) ln (zm_em NM) (d + 1) 0 op p ST) r uu.1 uu.2.1 op uu.2.2 ST) (zk_B D g A (fun (uu : Nat × Int32 × Int32) => [(b 100, .inr (8, [.ref (b 0), .ref (b 1), .ref (b 2), .ref (b 3), .int (m 4), .int (m 5), .int (m 6), .int (m 7), .ref (b 8), .int (m 9), .ref (b 10), .int (m 11), .int (zm_bs tb), .int (nI uu.1), .int (nI ln), .int uu.2.1, .int uu.2.2, .ref (b 17), .ref (b 18), .ref (b 19), .ref (b 20), .ref (b 21), .ref (b 22), .ref (b 23), .ref (b 24), .int (m 25), .int (m 26), .int (m 27), .int (m 28), .ref (b 29), .ref (b 30), .int (m 31), .int (m 32), .int (m 33), .int (m 34), .int (m 35), .ref (b 36), .ref (b 37), .int (m 38), .ref (b 39), .ref (b 40), .int (m 41), .int (m 42), .int (m 43), .ref (b 44), .ref (b 45), .ref (b 46), .ref (b 47)])), (b 8, .inl (g 0, 120, .inl (fun i => nI (TP i)))), (b 10, .inl (g 0, 120, .inl (fun i => nI (TX i)))), (b 17, .inl (g 0, 6, .inl NM))])) A) (cc := cX8_either) (maxL := 3) (ret := (some .int)) (own := RX8) (by decide) rfl rfl (Nat.le_of_ble_eq_true rfl) ?_
  intro pP eE sS mM args below meth cC aA ls qQ Z hR_ hlk hnm hK hT hA hQ G hl
  refine lv_aload_n Z.1 Z.2.1 dX8_either_0 rfl (lv_at hl 0 rfl) ?_
  refine zk_ci (WF := fun uu => [(b 100, .inr (8, [.ref (b 0), .ref (b 1), .ref (b 2), .ref (b 3), .int (m 4), .int (m 5), .int (m 6), .int (m 7), .ref (b 8), .int (m 9), .ref (b 10), .int (m 11), .int (zm_bs tb), .int (nI uu.1), .int (nI ln), .int uu.2.1, .int uu.2.2, .ref (b 17), .ref (b 18), .ref (b 19), .ref (b 20), .ref (b 21), .ref (b 22), .ref (b 23), .ref (b 24), .int (m 25), .int (m 26), .int (m 27), .int (m 28), .ref (b 29), .ref (b 30), .int (m 31), .int (m 32), .int (m 33), .int (m 34), .int (m 35), .ref (b 36), .ref (b 37), .int (m 38), .ref (b 39), .ref (b 40), .int (m 41), .int (m 42), .int (m 43), .ref (b 44), .ref (b 45), .ref (b 46), .ref (b 47)])), (b 8, .inl (g 0, 120, .inl (fun i => nI (TP i)))), (b 10, .inl (g 0, 120, .inl (fun i => nI (TX i)))), (b 17, .inl (g 0, 6, .inl NM))]) (wr := []) ⟨rfl, rfl⟩ (zk_rv (As := []) (rest := []) (q0 := 0) (ci := 8) Z ((ih.2.1 b m ln p op tb TP TX NM ST (by exact hln) (by exact hp) (by exact ht) (by omega) (by omega)) sS.heap.size) hK hT hA G [0, 1, 2, 3] rfl (by decide) rfl rfl gmX8_either_X8_both rfl dvX8_both ⟨by first | decide | (simp only [rm_X8_either, rm_X8_both, rm_X8_compared, rm_X8_sums, rm_X8_product, rm_X8_one]; omega), by first | decide | (simp only [rm_X8_either, rm_X8_both, rm_X8_compared, rm_X8_sums, rm_X8_product, rm_X8_one]; omega)⟩ rfl hl.1 rfl (Nat.le_of_ble_eq_true rfl) dX8_either_1 ⟨Nat.zero_le _, Nat.zero_le _⟩) hA G [0, 1, 2, 3] [] [0, 1, 2, 3] rfl rfl (by decide) (by decide) (by decide) (fun _ => rfl) (fun r_1 uu H locs w_1 G => ?_)
  obtain ⟨p1_1, ft1_1, oq1_1⟩ := uu
  have G : zk_G D aA [(b 100, .inr (8, [.ref (b 0), .ref (b 1), .ref (b 2), .ref (b 3), .int (m 4), .int (m 5), .int (m 6), .int (m 7), .ref (b 8), .int (m 9), .ref (b 10), .int (m 11), .int (zm_bs tb), .int (nI p1_1), .int (nI ln), .int ft1_1, .int oq1_1, .ref (b 17), .ref (b 18), .ref (b 19), .ref (b 20), .ref (b 21), .ref (b 22), .ref (b 23), .ref (b 24), .int (m 25), .int (m 26), .int (m 27), .int (m 28), .ref (b 29), .ref (b 30), .int (m 31), .int (m 32), .int (m 33), .int (m 34), .int (m 35), .ref (b 36), .ref (b 37), .int (m 38), .ref (b 39), .ref (b 40), .int (m 41), .int (m 42), .int (m 43), .ref (b 44), .ref (b 45), .ref (b 46), .ref (b 47)])), (b 8, .inl (g 0, 120, .inl (fun i => nI (TP i)))), (b 10, .inl (g 0, 120, .inl (fun i => nI (TX i)))), (b 17, .inl (g 0, 6, .inl NM))] sS H locs := G
  have zb_1 := zg_le (em := zm_em NM) (ln := ln) ht d 1 (op) (p) (ST) (by omega) (by omega) (by omega) (by omega)
  rcases hz_1 : zg (zm_tx tb TP TX) ln (zm_em NM) d 1 (op) (p) (ST) with e | ⟨a9, s9⟩
  · obtain ⟨h1_1, h2_1⟩ := zm_pl w_1 hz_1
    obtain rfl : p1_1 = e := h1_1
    obtain rfl : ft1_1 = nI p1_1 := h2_1
    have hb_1 := zb_1
    rw [hz_1] at hb_1
    have hp_1 : p1_1 ≤ ln := hb_1.2
    refine lv_istore_n (lv' := [(1, .int r_1), (0, .ref (b 100))]) Z.1 Z.2.1 dX8_either_4 rfl hl (by decide) rfl (fun ls hl => ?_)
    refine lv_aload_n Z.1 Z.2.1 dX8_either_5 rfl (lv_at hl 1 rfl) ?_
    refine lv_bipush (v := nI 124) Z.1 Z.2.1 dX8_either_6 (by decide +kernel) ?_
    refine zk_ci (WF := fun (_ : Unit) => [(b 100, .inr (8, [.ref (b 0), .ref (b 1), .ref (b 2), .ref (b 3), .int (m 4), .int (m 5), .int (m 6), .int (m 7), .ref (b 8), .int (m 9), .ref (b 10), .int (m 11), .int (zm_bs tb), .int (nI (if (decide ((nI p1_1 : Int32) < 0) && decide (zg_c (zm_tx tb TP TX) ln p1_1 = 124)) = true then p1_1 + 1 else p1_1)), .int (nI ln), .int (nI p1_1), .int oq1_1, .ref (b 17), .ref (b 18), .ref (b 19), .ref (b 20), .ref (b 21), .ref (b 22), .ref (b 23), .ref (b 24), .int (m 25), .int (m 26), .int (m 27), .int (m 28), .ref (b 29), .ref (b 30), .int (m 31), .int (m 32), .int (m 33), .int (m 34), .int (m 35), .ref (b 36), .ref (b 37), .int (m 38), .ref (b 39), .ref (b 40), .int (m 41), .int (m 42), .int (m 43), .ref (b 44), .ref (b 45), .ref (b 46), .ref (b 47)])), (b 8, .inl (g 0, 120, .inl (fun i => nI (TP i)))), (b 10, .inl (g 0, 120, .inl (fun i => nI (TX i)))), (b 17, .inl (g 0, 6, .inl NM))]) (wr := [(b 17, .inl (g 0, 6, .inl NM))]) ⟨rfl, rfl⟩ (zk_rv (As := [.int (nI 124)]) (rest := []) (q0 := 0) (ci := 8) Z ((ct_X8_takes l D g τ b m ln p1_1 (nI p1_1) tb TP TX oq1_1 124 (by exact hln) (by omega) (by exact ht) (by decide)) H.size) hK hT hA G [0, 1, 2] rfl (by decide) rfl rfl gmX8_either_X8_takes rfl dvX8_takes ⟨by first | decide | (simp only [rm_X8_either, rm_X8_both, rm_X8_compared, rm_X8_sums, rm_X8_product, rm_X8_one]; omega), by first | decide | (simp only [rm_X8_either, rm_X8_both, rm_X8_compared, rm_X8_sums, rm_X8_product, rm_X8_one]; omega)⟩ rfl hl.1 rfl (Nat.le_of_ble_eq_true rfl) dX8_either_8 ⟨Nat.zero_le _, Nat.zero_le _⟩) hA G [0, 1, 2] [3] [1, 2, 3, 0] rfl rfl (by decide) (by decide) (by decide) (fun _ => rfl) (fun r_8 _ H locs w_8 G => ?_)
    obtain rfl : r_8 = zk_b (decide ((nI p1_1 : Int32) < 0) && decide (zg_c (zm_tx tb TP TX) ln p1_1 = 124)) := w_8
    refine lv_if_eq (tgt := 36) Z.1 Z.2.1 dX8_either_11 (by decide) (fun c11 => ?_) (fun c11 => ?_)
    · have c11 : (decide ((nI p1_1 : Int32) < 0) && decide (zg_c (zm_tx tb TP TX) ln p1_1 = 124)) = false := zk_b0.mp c11
      have G : zk_G D aA [(b 100, .inr (8, [.ref (b 0), .ref (b 1), .ref (b 2), .ref (b 3), .int (m 4), .int (m 5), .int (m 6), .int (m 7), .ref (b 8), .int (m 9), .ref (b 10), .int (m 11), .int (zm_bs tb), .int (nI p1_1), .int (nI ln), .int (nI p1_1), .int oq1_1, .ref (b 17), .ref (b 18), .ref (b 19), .ref (b 20), .ref (b 21), .ref (b 22), .ref (b 23), .ref (b 24), .int (m 25), .int (m 26), .int (m 27), .int (m 28), .ref (b 29), .ref (b 30), .int (m 31), .int (m 32), .int (m 33), .int (m 34), .int (m 35), .ref (b 36), .ref (b 37), .int (m 38), .ref (b 39), .ref (b 40), .int (m 41), .int (m 42), .int (m 43), .ref (b 44), .ref (b 45), .ref (b 46), .ref (b 47)])), (b 8, .inl (g 0, 120, .inl (fun i => nI (TP i)))), (b 10, .inl (g 0, 120, .inl (fun i => nI (TX i)))), (b 17, .inl (g 0, 6, .inl NM))] sS H locs := (by rw [if_neg (by rw [zm_fl (show p1_1 < 2 ^ 31 by omega)]; simp)] at G; exact G)
      refine lv_iload_n Z.1 Z.2.1 dX8_either_36 rfl (lv_at hl 0 rfl) ?_
      exact zk_reti Z hR_ hlk hK hQ G (p1_1, nI p1_1, oq1_1) (by simp only [zg]; rw [if_pos (by decide), hz_1]; exact ⟨rfl, rfl⟩) rfl dX8_either_37
    exfalso
    have c11 : (decide ((nI p1_1 : Int32) < 0) && decide (zg_c (zm_tx tb TP TX) ln p1_1 = 124)) = true := zk_b1.mp c11
    have h9 := c11; rw [zm_fl (show p1_1 < 2 ^ 31 by omega)] at h9; exact absurd h9 (by simp)
  · obtain ⟨h1_1, h2_1, h3_1, h4_1⟩ := zm_pr w_1 hz_1
    obtain rfl : p1_1 = a9 := h1_1
    obtain rfl : ft1_1 = -1 := h2_1
    obtain rfl : oq1_1 = nI (op) := h3_1
    obtain rfl : s9 = r_1 :: ST := h4_1
    have hb_1 := zb_1
    rw [hz_1] at hb_1
    have hp_1 : p1_1 ≤ ln := hb_1.2
    have hq_1 : p ≤ p1_1 := hb_1.1
    have hV : zg_lp (zm_tx tb TP TX) ln (zm_em NM) (zg (zm_tx tb TP TX) ln (zm_em NM) d 1 op) 0 120 p1_1 (r_1 :: ST) = zg (zm_tx tb TP TX) ln (zm_em NM) (d + 1) 0 op p ST := by simp only [zg]; rw [if_pos (by decide), hz_1]; rfl
    refine lv_istore_n (lv' := [(1, .int r_1), (0, .ref (b 100))]) Z.1 Z.2.1 dX8_either_4 rfl hl (by decide) rfl (fun ls hl => ?_)
    have L5 : ∀ (nN : Nat) (v : Int32) (p2 : Nat) (f : Nat), f < nN → (120 ≤ p2 + f) → (p2 ≤ ln) → (zg_lp (zm_tx tb TP TX) ln (zm_em NM) (zg (zm_tx tb TP TX) ln (zm_em NM) d 1 op) 0 f p2 (v :: ST) = zg (zm_tx tb TP TX) ln (zm_em NM) (d + 1) 0 op p ST) → ∀ (H : Heap) (locs : List Loc) (ls : Array Slot), zk_G D aA [(b 100, .inr (8, [.ref (b 0), .ref (b 1), .ref (b 2), .ref (b 3), .int (m 4), .int (m 5), .int (m 6), .int (m 7), .ref (b 8), .int (m 9), .ref (b 10), .int (m 11), .int (zm_bs tb), .int (nI p2), .int (nI ln), .int (-1), .int (nI op), .ref (b 17), .ref (b 18), .ref (b 19), .ref (b 20), .ref (b 21), .ref (b 22), .ref (b 23), .ref (b 24), .int (m 25), .int (m 26), .int (m 27), .int (m 28), .ref (b 29), .ref (b 30), .int (m 31), .int (m 32), .int (m 33), .int (m 34), .int (m 35), .ref (b 36), .ref (b 37), .int (m 38), .ref (b 39), .ref (b 40), .int (m 41), .int (m 42), .int (m 43), .ref (b 44), .ref (b 45), .ref (b 46), .ref (b 47)])), (b 8, .inl (g 0, 120, .inl (fun i => nI (TP i)))), (b 10, .inl (g 0, 120, .inl (fun i => nI (TX i)))), (b 17, .inl (g 0, 6, .inl NM))] sS H locs → lv_has ls 3 [(0, .ref (b 100)), (1, .int v)] → W pP l eE (rm_X8_either (d + 1)) sS mM args below meth cC H locs 0 0 qQ (F0 mM 5 ls []) := by
      intro nN
      induction nN with
      | zero => intros; omega
      | succ nN ih5 =>
        intro v p2 f hμ hpf hp2 hs H locs ls G hl
        have hcb := zg_c_256 (ln := ln) ht p2
        refine lv_aload_n Z.1 Z.2.1 dX8_either_5 rfl (lv_at hl 0 rfl) ?_
        refine lv_bipush (v := nI 124) Z.1 Z.2.1 dX8_either_6 (by decide +kernel) ?_
        refine zk_ci (WF := fun (_ : Unit) => [(b 100, .inr (8, [.ref (b 0), .ref (b 1), .ref (b 2), .ref (b 3), .int (m 4), .int (m 5), .int (m 6), .int (m 7), .ref (b 8), .int (m 9), .ref (b 10), .int (m 11), .int (zm_bs tb), .int (nI (if (decide (((-1) : Int32) < 0) && decide (zg_c (zm_tx tb TP TX) ln p2 = 124)) = true then p2 + 1 else p2)), .int (nI ln), .int (-1), .int (nI op), .ref (b 17), .ref (b 18), .ref (b 19), .ref (b 20), .ref (b 21), .ref (b 22), .ref (b 23), .ref (b 24), .int (m 25), .int (m 26), .int (m 27), .int (m 28), .ref (b 29), .ref (b 30), .int (m 31), .int (m 32), .int (m 33), .int (m 34), .int (m 35), .ref (b 36), .ref (b 37), .int (m 38), .ref (b 39), .ref (b 40), .int (m 41), .int (m 42), .int (m 43), .ref (b 44), .ref (b 45), .ref (b 46), .ref (b 47)])), (b 8, .inl (g 0, 120, .inl (fun i => nI (TP i)))), (b 10, .inl (g 0, 120, .inl (fun i => nI (TX i)))), (b 17, .inl (g 0, 6, .inl NM))]) (wr := [(b 17, .inl (g 0, 6, .inl NM))]) ⟨rfl, rfl⟩ (zk_rv (As := [.int (nI 124)]) (rest := []) (q0 := 0) (ci := 8) Z ((ct_X8_takes l D g τ b m ln p2 (-1) tb TP TX (nI op) 124 (by exact hln) (by omega) (by exact ht) (by decide)) H.size) hK hT hA G [0, 1, 2] rfl (by decide) rfl rfl gmX8_either_X8_takes rfl dvX8_takes ⟨by first | decide | (simp only [rm_X8_either, rm_X8_both, rm_X8_compared, rm_X8_sums, rm_X8_product, rm_X8_one]; omega), by first | decide | (simp only [rm_X8_either, rm_X8_both, rm_X8_compared, rm_X8_sums, rm_X8_product, rm_X8_one]; omega)⟩ rfl hl.1 rfl (Nat.le_of_ble_eq_true rfl) dX8_either_8 ⟨Nat.zero_le _, Nat.zero_le _⟩) hA G [0, 1, 2] [3] [1, 2, 3, 0] rfl rfl (by decide) (by decide) (by decide) (fun _ => rfl) (fun r_8 _ H locs w_8 G => ?_)
        obtain rfl : r_8 = zk_b (decide (((-1) : Int32) < 0) && decide (zg_c (zm_tx tb TP TX) ln p2 = 124)) := w_8
        refine lv_if_eq (tgt := 36) Z.1 Z.2.1 dX8_either_11 (by decide) (fun c11 => ?_) (fun c11 => ?_)
        · have c11 : (decide (((-1) : Int32) < 0) && decide (zg_c (zm_tx tb TP TX) ln p2 = 124)) = false := zk_b0.mp c11
          have hno9 : ¬ zg_c (zm_tx tb TP TX) ln p2 = 124 := fun q9 => by have h9 := c11; rw [decide_eq_true q9] at h9; exact absurd h9 (by decide)
          have hst9 : ¬ zg_lev (zg_c (zm_tx tb TP TX) ln p2) = 0 := fun q9 => hno9 (zg_lev_0c.mp q9)
          have G : zk_G D aA [(b 100, .inr (8, [.ref (b 0), .ref (b 1), .ref (b 2), .ref (b 3), .int (m 4), .int (m 5), .int (m 6), .int (m 7), .ref (b 8), .int (m 9), .ref (b 10), .int (m 11), .int (zm_bs tb), .int (nI p2), .int (nI ln), .int (-1), .int (nI op), .ref (b 17), .ref (b 18), .ref (b 19), .ref (b 20), .ref (b 21), .ref (b 22), .ref (b 23), .ref (b 24), .int (m 25), .int (m 26), .int (m 27), .int (m 28), .ref (b 29), .ref (b 30), .int (m 31), .int (m 32), .int (m 33), .int (m 34), .int (m 35), .ref (b 36), .ref (b 37), .int (m 38), .ref (b 39), .ref (b 40), .int (m 41), .int (m 42), .int (m 43), .ref (b 44), .ref (b 45), .ref (b 46), .ref (b 47)])), (b 8, .inl (g 0, 120, .inl (fun i => nI (TP i)))), (b 10, .inl (g 0, 120, .inl (fun i => nI (TX i)))), (b 17, .inl (g 0, 6, .inl NM))] sS H locs := (by rw [if_neg (by rw [c11]; decide)] at G; exact G)
          refine lv_iload_n Z.1 Z.2.1 dX8_either_36 rfl (lv_at hl 1 rfl) ?_
          exact zk_reti Z hR_ hlk hK hQ G (p2, (-1), nI op) (by rw [← hs, zg_lp_stop hst9]; exact ⟨rfl, rfl, rfl, rfl⟩) rfl dX8_either_37
        have c11 : (decide (((-1) : Int32) < 0) && decide (zg_c (zm_tx tb TP TX) ln p2 = 124)) = true := zk_b1.mp c11
        have htk : zg_c (zm_tx tb TP TX) ln p2 = 124 := of_decide_eq_true (Bool.and_eq_true _ _ ▸ c11).2
        have hlv : zg_lev (zg_c (zm_tx tb TP TX) ln p2) = 0 := by rw [htk]; rfl
        have hpl : p2 < ln := zg_c_lt (tp := (zm_tx tb TP TX)) (by rw [htk]; decide)
        obtain ⟨f9, rfl⟩ : ∃ f9, f = f9 + 1 := ⟨f - 1, by omega⟩
        have G : zk_G D aA [(b 100, .inr (8, [.ref (b 0), .ref (b 1), .ref (b 2), .ref (b 3), .int (m 4), .int (m 5), .int (m 6), .int (m 7), .ref (b 8), .int (m 9), .ref (b 10), .int (m 11), .int (zm_bs tb), .int (nI (p2 + 1)), .int (nI ln), .int (-1), .int (nI op), .ref (b 17), .ref (b 18), .ref (b 19), .ref (b 20), .ref (b 21), .ref (b 22), .ref (b 23), .ref (b 24), .int (m 25), .int (m 26), .int (m 27), .int (m 28), .ref (b 29), .ref (b 30), .int (m 31), .int (m 32), .int (m 33), .int (m 34), .int (m 35), .ref (b 36), .ref (b 37), .int (m 38), .ref (b 39), .ref (b 40), .int (m 41), .int (m 42), .int (m 43), .ref (b 44), .ref (b 45), .ref (b 46), .ref (b 47)])), (b 8, .inl (g 0, 120, .inl (fun i => nI (TP i)))), (b 10, .inl (g 0, 120, .inl (fun i => nI (TX i)))), (b 17, .inl (g 0, 6, .inl NM))] sS H locs := (by rw [if_pos c11] at G; exact G)
        refine lv_aload_n Z.1 Z.2.1 dX8_either_14 rfl (lv_at hl 0 rfl) ?_
        refine zk_ci (WF := fun uu => [(b 100, .inr (8, [.ref (b 0), .ref (b 1), .ref (b 2), .ref (b 3), .int (m 4), .int (m 5), .int (m 6), .int (m 7), .ref (b 8), .int (m 9), .ref (b 10), .int (m 11), .int (zm_bs tb), .int (nI uu.1), .int (nI ln), .int uu.2.1, .int uu.2.2, .ref (b 17), .ref (b 18), .ref (b 19), .ref (b 20), .ref (b 21), .ref (b 22), .ref (b 23), .ref (b 24), .int (m 25), .int (m 26), .int (m 27), .int (m 28), .ref (b 29), .ref (b 30), .int (m 31), .int (m 32), .int (m 33), .int (m 34), .int (m 35), .ref (b 36), .ref (b 37), .int (m 38), .ref (b 39), .ref (b 40), .int (m 41), .int (m 42), .int (m 43), .ref (b 44), .ref (b 45), .ref (b 46), .ref (b 47)])), (b 8, .inl (g 0, 120, .inl (fun i => nI (TP i)))), (b 10, .inl (g 0, 120, .inl (fun i => nI (TX i)))), (b 17, .inl (g 0, 6, .inl NM))]) (wr := []) ⟨rfl, rfl⟩ (zk_rv (As := []) (rest := []) (q0 := 0) (ci := 8) Z ((ih.2.1 b m ln (p2 + 1) op tb TP TX NM (v :: ST) (by exact hln) (by omega) (by exact ht) (by omega) (by omega)) H.size) hK hT hA G [0, 1, 2, 3] rfl (by decide) rfl rfl gmX8_either_X8_both rfl dvX8_both ⟨by first | decide | (simp only [rm_X8_either, rm_X8_both, rm_X8_compared, rm_X8_sums, rm_X8_product, rm_X8_one]; omega), by first | decide | (simp only [rm_X8_either, rm_X8_both, rm_X8_compared, rm_X8_sums, rm_X8_product, rm_X8_one]; omega)⟩ rfl hl.1 rfl (Nat.le_of_ble_eq_true rfl) dX8_either_15 ⟨Nat.zero_le _, Nat.zero_le _⟩) hA G [0, 1, 2, 3] [] [0, 1, 2, 3] rfl rfl (by decide) (by decide) (by decide) (fun _ => rfl) (fun r_15 uu H locs w_15 G => ?_)
        obtain ⟨p1_15, ft1_15, oq1_15⟩ := uu
        have G : zk_G D aA [(b 100, .inr (8, [.ref (b 0), .ref (b 1), .ref (b 2), .ref (b 3), .int (m 4), .int (m 5), .int (m 6), .int (m 7), .ref (b 8), .int (m 9), .ref (b 10), .int (m 11), .int (zm_bs tb), .int (nI p1_15), .int (nI ln), .int ft1_15, .int oq1_15, .ref (b 17), .ref (b 18), .ref (b 19), .ref (b 20), .ref (b 21), .ref (b 22), .ref (b 23), .ref (b 24), .int (m 25), .int (m 26), .int (m 27), .int (m 28), .ref (b 29), .ref (b 30), .int (m 31), .int (m 32), .int (m 33), .int (m 34), .int (m 35), .ref (b 36), .ref (b 37), .int (m 38), .ref (b 39), .ref (b 40), .int (m 41), .int (m 42), .int (m 43), .ref (b 44), .ref (b 45), .ref (b 46), .ref (b 47)])), (b 8, .inl (g 0, 120, .inl (fun i => nI (TP i)))), (b 10, .inl (g 0, 120, .inl (fun i => nI (TX i)))), (b 17, .inl (g 0, 6, .inl NM))] sS H locs := G
        have zb_15 := zg_le (em := zm_em NM) (ln := ln) ht d 1 (op) (p2 + 1) (v :: ST) (by omega) (by omega) (by omega) (by omega)
        rcases hz_15 : zg (zm_tx tb TP TX) ln (zm_em NM) d 1 (op) (p2 + 1) (v :: ST) with e | ⟨a9, s9⟩
        · obtain ⟨h1_15, h2_15⟩ := zm_pl w_15 hz_15
          obtain rfl : p1_15 = e := h1_15
          obtain rfl : ft1_15 = nI p1_15 := h2_15
          have hb_15 := zb_15
          rw [hz_15] at hb_15
          have hp_15 : p1_15 ≤ ln := hb_15.2
          refine lv_istore_n (lv' := [(2, .int r_15), (0, .ref (b 100)), (1, .int v)]) Z.1 Z.2.1 dX8_either_18 rfl hl (by decide) rfl (fun ls hl => ?_)
          refine lv_iload_n Z.1 Z.2.1 dX8_either_19 rfl (lv_at hl 2 rfl) ?_
          refine lv_if_ne (tgt := 27) Z.1 Z.2.1 dX8_either_20 (by decide) (fun c20 => ?_) (fun c20 => ?_)
          · have c20 : ¬ v = 0 := c20
            refine lv_iconst (v := nI 1) Z.1 Z.2.1 dX8_either_27 (by decide +kernel) ?_
            refine lv_goto (tgt := 32) Z.1 Z.2.1 dX8_either_28 (by decide) ?_
            refine lv_istore_n (lv' := [(1, .int (nI 1)), (2, .int r_15), (0, .ref (b 100))]) Z.1 Z.2.1 dX8_either_32 rfl hl (by decide) rfl (fun ls hl => ?_)
            refine lv_goto (tgt := 5) Z.1 Z.2.1 dX8_either_33 (by decide) ?_
            refine lv_aload_n Z.1 Z.2.1 dX8_either_5 rfl (lv_at hl 2 rfl) ?_
            refine lv_bipush (v := nI 124) Z.1 Z.2.1 dX8_either_6 (by decide +kernel) ?_
            refine zk_ci (WF := fun (_ : Unit) => [(b 100, .inr (8, [.ref (b 0), .ref (b 1), .ref (b 2), .ref (b 3), .int (m 4), .int (m 5), .int (m 6), .int (m 7), .ref (b 8), .int (m 9), .ref (b 10), .int (m 11), .int (zm_bs tb), .int (nI (if (decide ((nI p1_15 : Int32) < 0) && decide (zg_c (zm_tx tb TP TX) ln p1_15 = 124)) = true then p1_15 + 1 else p1_15)), .int (nI ln), .int (nI p1_15), .int oq1_15, .ref (b 17), .ref (b 18), .ref (b 19), .ref (b 20), .ref (b 21), .ref (b 22), .ref (b 23), .ref (b 24), .int (m 25), .int (m 26), .int (m 27), .int (m 28), .ref (b 29), .ref (b 30), .int (m 31), .int (m 32), .int (m 33), .int (m 34), .int (m 35), .ref (b 36), .ref (b 37), .int (m 38), .ref (b 39), .ref (b 40), .int (m 41), .int (m 42), .int (m 43), .ref (b 44), .ref (b 45), .ref (b 46), .ref (b 47)])), (b 8, .inl (g 0, 120, .inl (fun i => nI (TP i)))), (b 10, .inl (g 0, 120, .inl (fun i => nI (TX i)))), (b 17, .inl (g 0, 6, .inl NM))]) (wr := [(b 17, .inl (g 0, 6, .inl NM))]) ⟨rfl, rfl⟩ (zk_rv (As := [.int (nI 124)]) (rest := []) (q0 := 0) (ci := 8) Z ((ct_X8_takes l D g τ b m ln p1_15 (nI p1_15) tb TP TX oq1_15 124 (by exact hln) (by omega) (by exact ht) (by decide)) H.size) hK hT hA G [0, 1, 2] rfl (by decide) rfl rfl gmX8_either_X8_takes rfl dvX8_takes ⟨by first | decide | (simp only [rm_X8_either, rm_X8_both, rm_X8_compared, rm_X8_sums, rm_X8_product, rm_X8_one]; omega), by first | decide | (simp only [rm_X8_either, rm_X8_both, rm_X8_compared, rm_X8_sums, rm_X8_product, rm_X8_one]; omega)⟩ rfl hl.1 rfl (Nat.le_of_ble_eq_true rfl) dX8_either_8 ⟨Nat.zero_le _, Nat.zero_le _⟩) hA G [0, 1, 2] [3] [1, 2, 3, 0] rfl rfl (by decide) (by decide) (by decide) (fun _ => rfl) (fun r_8 _ H locs w_8 G => ?_)
            obtain rfl : r_8 = zk_b (decide ((nI p1_15 : Int32) < 0) && decide (zg_c (zm_tx tb TP TX) ln p1_15 = 124)) := w_8
            refine lv_if_eq (tgt := 36) Z.1 Z.2.1 dX8_either_11 (by decide) (fun c11 => ?_) (fun c11 => ?_)
            · have c11 : (decide ((nI p1_15 : Int32) < 0) && decide (zg_c (zm_tx tb TP TX) ln p1_15 = 124)) = false := zk_b0.mp c11
              have G : zk_G D aA [(b 100, .inr (8, [.ref (b 0), .ref (b 1), .ref (b 2), .ref (b 3), .int (m 4), .int (m 5), .int (m 6), .int (m 7), .ref (b 8), .int (m 9), .ref (b 10), .int (m 11), .int (zm_bs tb), .int (nI p1_15), .int (nI ln), .int (nI p1_15), .int oq1_15, .ref (b 17), .ref (b 18), .ref (b 19), .ref (b 20), .ref (b 21), .ref (b 22), .ref (b 23), .ref (b 24), .int (m 25), .int (m 26), .int (m 27), .int (m 28), .ref (b 29), .ref (b 30), .int (m 31), .int (m 32), .int (m 33), .int (m 34), .int (m 35), .ref (b 36), .ref (b 37), .int (m 38), .ref (b 39), .ref (b 40), .int (m 41), .int (m 42), .int (m 43), .ref (b 44), .ref (b 45), .ref (b 46), .ref (b 47)])), (b 8, .inl (g 0, 120, .inl (fun i => nI (TP i)))), (b 10, .inl (g 0, 120, .inl (fun i => nI (TX i)))), (b 17, .inl (g 0, 6, .inl NM))] sS H locs := (by rw [if_neg (by rw [zm_fl (show p1_15 < 2 ^ 31 by omega)]; simp)] at G; exact G)
              refine lv_iload_n Z.1 Z.2.1 dX8_either_36 rfl (lv_at hl 0 rfl) ?_
              exact zk_reti Z hR_ hlk hK hQ G (p1_15, nI p1_15, oq1_15) (by rw [← hs]; simp only [zg_lp]; rw [if_pos hlv, hz_15]; exact ⟨rfl, rfl⟩) rfl dX8_either_37
            exfalso
            have c11 : (decide ((nI p1_15 : Int32) < 0) && decide (zg_c (zm_tx tb TP TX) ln p1_15 = 124)) = true := zk_b1.mp c11
            have h9 := c11; rw [zm_fl (show p1_15 < 2 ^ 31 by omega)] at h9; exact absurd h9 (by simp)
          have c20 : v = 0 := c20
          refine lv_iload_n Z.1 Z.2.1 dX8_either_23 rfl (lv_at hl 0 rfl) ?_
          refine lv_if_eq (tgt := 31) Z.1 Z.2.1 dX8_either_24 (by decide) (fun c24 => ?_) (fun c24 => ?_)
          · have c24 : r_15 = 0 := c24
            refine lv_iconst (v := nI 0) Z.1 Z.2.1 dX8_either_31 (by decide +kernel) ?_
            refine lv_istore_n (lv' := [(1, .int (nI 0)), (2, .int r_15), (0, .ref (b 100))]) Z.1 Z.2.1 dX8_either_32 rfl hl (by decide) rfl (fun ls hl => ?_)
            refine lv_goto (tgt := 5) Z.1 Z.2.1 dX8_either_33 (by decide) ?_
            refine lv_aload_n Z.1 Z.2.1 dX8_either_5 rfl (lv_at hl 2 rfl) ?_
            refine lv_bipush (v := nI 124) Z.1 Z.2.1 dX8_either_6 (by decide +kernel) ?_
            refine zk_ci (WF := fun (_ : Unit) => [(b 100, .inr (8, [.ref (b 0), .ref (b 1), .ref (b 2), .ref (b 3), .int (m 4), .int (m 5), .int (m 6), .int (m 7), .ref (b 8), .int (m 9), .ref (b 10), .int (m 11), .int (zm_bs tb), .int (nI (if (decide ((nI p1_15 : Int32) < 0) && decide (zg_c (zm_tx tb TP TX) ln p1_15 = 124)) = true then p1_15 + 1 else p1_15)), .int (nI ln), .int (nI p1_15), .int oq1_15, .ref (b 17), .ref (b 18), .ref (b 19), .ref (b 20), .ref (b 21), .ref (b 22), .ref (b 23), .ref (b 24), .int (m 25), .int (m 26), .int (m 27), .int (m 28), .ref (b 29), .ref (b 30), .int (m 31), .int (m 32), .int (m 33), .int (m 34), .int (m 35), .ref (b 36), .ref (b 37), .int (m 38), .ref (b 39), .ref (b 40), .int (m 41), .int (m 42), .int (m 43), .ref (b 44), .ref (b 45), .ref (b 46), .ref (b 47)])), (b 8, .inl (g 0, 120, .inl (fun i => nI (TP i)))), (b 10, .inl (g 0, 120, .inl (fun i => nI (TX i)))), (b 17, .inl (g 0, 6, .inl NM))]) (wr := [(b 17, .inl (g 0, 6, .inl NM))]) ⟨rfl, rfl⟩ (zk_rv (As := [.int (nI 124)]) (rest := []) (q0 := 0) (ci := 8) Z ((ct_X8_takes l D g τ b m ln p1_15 (nI p1_15) tb TP TX oq1_15 124 (by exact hln) (by omega) (by exact ht) (by decide)) H.size) hK hT hA G [0, 1, 2] rfl (by decide) rfl rfl gmX8_either_X8_takes rfl dvX8_takes ⟨by first | decide | (simp only [rm_X8_either, rm_X8_both, rm_X8_compared, rm_X8_sums, rm_X8_product, rm_X8_one]; omega), by first | decide | (simp only [rm_X8_either, rm_X8_both, rm_X8_compared, rm_X8_sums, rm_X8_product, rm_X8_one]; omega)⟩ rfl hl.1 rfl (Nat.le_of_ble_eq_true rfl) dX8_either_8 ⟨Nat.zero_le _, Nat.zero_le _⟩) hA G [0, 1, 2] [3] [1, 2, 3, 0] rfl rfl (by decide) (by decide) (by decide) (fun _ => rfl) (fun r_8 _ H locs w_8 G => ?_)
            obtain rfl : r_8 = zk_b (decide ((nI p1_15 : Int32) < 0) && decide (zg_c (zm_tx tb TP TX) ln p1_15 = 124)) := w_8
            refine lv_if_eq (tgt := 36) Z.1 Z.2.1 dX8_either_11 (by decide) (fun c11 => ?_) (fun c11 => ?_)
            · have c11 : (decide ((nI p1_15 : Int32) < 0) && decide (zg_c (zm_tx tb TP TX) ln p1_15 = 124)) = false := zk_b0.mp c11
              have G : zk_G D aA [(b 100, .inr (8, [.ref (b 0), .ref (b 1), .ref (b 2), .ref (b 3), .int (m 4), .int (m 5), .int (m 6), .int (m 7), .ref (b 8), .int (m 9), .ref (b 10), .int (m 11), .int (zm_bs tb), .int (nI p1_15), .int (nI ln), .int (nI p1_15), .int oq1_15, .ref (b 17), .ref (b 18), .ref (b 19), .ref (b 20), .ref (b 21), .ref (b 22), .ref (b 23), .ref (b 24), .int (m 25), .int (m 26), .int (m 27), .int (m 28), .ref (b 29), .ref (b 30), .int (m 31), .int (m 32), .int (m 33), .int (m 34), .int (m 35), .ref (b 36), .ref (b 37), .int (m 38), .ref (b 39), .ref (b 40), .int (m 41), .int (m 42), .int (m 43), .ref (b 44), .ref (b 45), .ref (b 46), .ref (b 47)])), (b 8, .inl (g 0, 120, .inl (fun i => nI (TP i)))), (b 10, .inl (g 0, 120, .inl (fun i => nI (TX i)))), (b 17, .inl (g 0, 6, .inl NM))] sS H locs := (by rw [if_neg (by rw [zm_fl (show p1_15 < 2 ^ 31 by omega)]; simp)] at G; exact G)
              refine lv_iload_n Z.1 Z.2.1 dX8_either_36 rfl (lv_at hl 0 rfl) ?_
              exact zk_reti Z hR_ hlk hK hQ G (p1_15, nI p1_15, oq1_15) (by rw [← hs]; simp only [zg_lp]; rw [if_pos hlv, hz_15]; exact ⟨rfl, rfl⟩) rfl dX8_either_37
            exfalso
            have c11 : (decide ((nI p1_15 : Int32) < 0) && decide (zg_c (zm_tx tb TP TX) ln p1_15 = 124)) = true := zk_b1.mp c11
            have h9 := c11; rw [zm_fl (show p1_15 < 2 ^ 31 by omega)] at h9; exact absurd h9 (by simp)
          have c24 : ¬ r_15 = 0 := c24
          refine lv_iconst (v := nI 1) Z.1 Z.2.1 dX8_either_27 (by decide +kernel) ?_
          refine lv_goto (tgt := 32) Z.1 Z.2.1 dX8_either_28 (by decide) ?_
          refine lv_istore_n (lv' := [(1, .int (nI 1)), (2, .int r_15), (0, .ref (b 100))]) Z.1 Z.2.1 dX8_either_32 rfl hl (by decide) rfl (fun ls hl => ?_)
          refine lv_goto (tgt := 5) Z.1 Z.2.1 dX8_either_33 (by decide) ?_
          refine lv_aload_n Z.1 Z.2.1 dX8_either_5 rfl (lv_at hl 2 rfl) ?_
          refine lv_bipush (v := nI 124) Z.1 Z.2.1 dX8_either_6 (by decide +kernel) ?_
          refine zk_ci (WF := fun (_ : Unit) => [(b 100, .inr (8, [.ref (b 0), .ref (b 1), .ref (b 2), .ref (b 3), .int (m 4), .int (m 5), .int (m 6), .int (m 7), .ref (b 8), .int (m 9), .ref (b 10), .int (m 11), .int (zm_bs tb), .int (nI (if (decide ((nI p1_15 : Int32) < 0) && decide (zg_c (zm_tx tb TP TX) ln p1_15 = 124)) = true then p1_15 + 1 else p1_15)), .int (nI ln), .int (nI p1_15), .int oq1_15, .ref (b 17), .ref (b 18), .ref (b 19), .ref (b 20), .ref (b 21), .ref (b 22), .ref (b 23), .ref (b 24), .int (m 25), .int (m 26), .int (m 27), .int (m 28), .ref (b 29), .ref (b 30), .int (m 31), .int (m 32), .int (m 33), .int (m 34), .int (m 35), .ref (b 36), .ref (b 37), .int (m 38), .ref (b 39), .ref (b 40), .int (m 41), .int (m 42), .int (m 43), .ref (b 44), .ref (b 45), .ref (b 46), .ref (b 47)])), (b 8, .inl (g 0, 120, .inl (fun i => nI (TP i)))), (b 10, .inl (g 0, 120, .inl (fun i => nI (TX i)))), (b 17, .inl (g 0, 6, .inl NM))]) (wr := [(b 17, .inl (g 0, 6, .inl NM))]) ⟨rfl, rfl⟩ (zk_rv (As := [.int (nI 124)]) (rest := []) (q0 := 0) (ci := 8) Z ((ct_X8_takes l D g τ b m ln p1_15 (nI p1_15) tb TP TX oq1_15 124 (by exact hln) (by omega) (by exact ht) (by decide)) H.size) hK hT hA G [0, 1, 2] rfl (by decide) rfl rfl gmX8_either_X8_takes rfl dvX8_takes ⟨by first | decide | (simp only [rm_X8_either, rm_X8_both, rm_X8_compared, rm_X8_sums, rm_X8_product, rm_X8_one]; omega), by first | decide | (simp only [rm_X8_either, rm_X8_both, rm_X8_compared, rm_X8_sums, rm_X8_product, rm_X8_one]; omega)⟩ rfl hl.1 rfl (Nat.le_of_ble_eq_true rfl) dX8_either_8 ⟨Nat.zero_le _, Nat.zero_le _⟩) hA G [0, 1, 2] [3] [1, 2, 3, 0] rfl rfl (by decide) (by decide) (by decide) (fun _ => rfl) (fun r_8 _ H locs w_8 G => ?_)
          obtain rfl : r_8 = zk_b (decide ((nI p1_15 : Int32) < 0) && decide (zg_c (zm_tx tb TP TX) ln p1_15 = 124)) := w_8
          refine lv_if_eq (tgt := 36) Z.1 Z.2.1 dX8_either_11 (by decide) (fun c11 => ?_) (fun c11 => ?_)
          · have c11 : (decide ((nI p1_15 : Int32) < 0) && decide (zg_c (zm_tx tb TP TX) ln p1_15 = 124)) = false := zk_b0.mp c11
            have G : zk_G D aA [(b 100, .inr (8, [.ref (b 0), .ref (b 1), .ref (b 2), .ref (b 3), .int (m 4), .int (m 5), .int (m 6), .int (m 7), .ref (b 8), .int (m 9), .ref (b 10), .int (m 11), .int (zm_bs tb), .int (nI p1_15), .int (nI ln), .int (nI p1_15), .int oq1_15, .ref (b 17), .ref (b 18), .ref (b 19), .ref (b 20), .ref (b 21), .ref (b 22), .ref (b 23), .ref (b 24), .int (m 25), .int (m 26), .int (m 27), .int (m 28), .ref (b 29), .ref (b 30), .int (m 31), .int (m 32), .int (m 33), .int (m 34), .int (m 35), .ref (b 36), .ref (b 37), .int (m 38), .ref (b 39), .ref (b 40), .int (m 41), .int (m 42), .int (m 43), .ref (b 44), .ref (b 45), .ref (b 46), .ref (b 47)])), (b 8, .inl (g 0, 120, .inl (fun i => nI (TP i)))), (b 10, .inl (g 0, 120, .inl (fun i => nI (TX i)))), (b 17, .inl (g 0, 6, .inl NM))] sS H locs := (by rw [if_neg (by rw [zm_fl (show p1_15 < 2 ^ 31 by omega)]; simp)] at G; exact G)
            refine lv_iload_n Z.1 Z.2.1 dX8_either_36 rfl (lv_at hl 0 rfl) ?_
            exact zk_reti Z hR_ hlk hK hQ G (p1_15, nI p1_15, oq1_15) (by rw [← hs]; simp only [zg_lp]; rw [if_pos hlv, hz_15]; exact ⟨rfl, rfl⟩) rfl dX8_either_37
          exfalso
          have c11 : (decide ((nI p1_15 : Int32) < 0) && decide (zg_c (zm_tx tb TP TX) ln p1_15 = 124)) = true := zk_b1.mp c11
          have h9 := c11; rw [zm_fl (show p1_15 < 2 ^ 31 by omega)] at h9; exact absurd h9 (by simp)
        · obtain ⟨h1_15, h2_15, h3_15, h4_15⟩ := zm_pr w_15 hz_15
          obtain rfl : p1_15 = a9 := h1_15
          obtain rfl : ft1_15 = -1 := h2_15
          obtain rfl : oq1_15 = nI (op) := h3_15
          obtain rfl : s9 = r_15 :: (v :: ST) := h4_15
          have hb_15 := zb_15
          rw [hz_15] at hb_15
          have hp_15 : p1_15 ≤ ln := hb_15.2
          have hq_15 : p2 + 1 ≤ p1_15 := hb_15.1
          refine lv_istore_n (lv' := [(2, .int r_15), (0, .ref (b 100)), (1, .int v)]) Z.1 Z.2.1 dX8_either_18 rfl hl (by decide) rfl (fun ls hl => ?_)
          refine lv_iload_n Z.1 Z.2.1 dX8_either_19 rfl (lv_at hl 2 rfl) ?_
          refine lv_if_ne (tgt := 27) Z.1 Z.2.1 dX8_either_20 (by decide) (fun c20 => ?_) (fun c20 => ?_)
          · have c20 : ¬ v = 0 := c20
            refine lv_iconst (v := nI 1) Z.1 Z.2.1 dX8_either_27 (by decide +kernel) ?_
            refine lv_goto (tgt := 32) Z.1 Z.2.1 dX8_either_28 (by decide) ?_
            refine lv_istore_n (lv' := [(1, .int (nI 1)), (2, .int r_15), (0, .ref (b 100))]) Z.1 Z.2.1 dX8_either_32 rfl hl (by decide) rfl (fun ls hl => ?_)
            refine lv_goto (tgt := 5) Z.1 Z.2.1 dX8_either_33 (by decide) ?_
            exact ih5 (nI 1) p1_15 f9 (by omega) (by omega) (by exact hp_15) (by simp only [zg_lp] at hs; rw [if_pos hlv, hz_15] at hs; try simp only [] at hs; rw [htk] at hs; exact (congrArg (fun z => zg_lp (zm_tx tb TP TX) ln (zm_em NM) (zg (zm_tx tb TP TX) ln (zm_em NM) d 1 op) 0 f9 p1_15 z) (show (nI 1) :: ST = zm_em NM 124 0 (r_15 :: v :: ST) from congrArg (· :: ST) (by simp [zl_op, c20]))).trans hs) _ _ _ G (lv_sub hl [2, 0] rfl)
          have c20 : v = 0 := c20
          refine lv_iload_n Z.1 Z.2.1 dX8_either_23 rfl (lv_at hl 0 rfl) ?_
          refine lv_if_eq (tgt := 31) Z.1 Z.2.1 dX8_either_24 (by decide) (fun c24 => ?_) (fun c24 => ?_)
          · have c24 : r_15 = 0 := c24
            refine lv_iconst (v := nI 0) Z.1 Z.2.1 dX8_either_31 (by decide +kernel) ?_
            refine lv_istore_n (lv' := [(1, .int (nI 0)), (2, .int r_15), (0, .ref (b 100))]) Z.1 Z.2.1 dX8_either_32 rfl hl (by decide) rfl (fun ls hl => ?_)
            refine lv_goto (tgt := 5) Z.1 Z.2.1 dX8_either_33 (by decide) ?_
            exact ih5 (nI 0) p1_15 f9 (by omega) (by omega) (by exact hp_15) (by simp only [zg_lp] at hs; rw [if_pos hlv, hz_15] at hs; try simp only [] at hs; rw [htk] at hs; exact (congrArg (fun z => zg_lp (zm_tx tb TP TX) ln (zm_em NM) (zg (zm_tx tb TP TX) ln (zm_em NM) d 1 op) 0 f9 p1_15 z) (show (nI 0) :: ST = zm_em NM 124 0 (r_15 :: v :: ST) from congrArg (· :: ST) (by simp [zl_op, c20, c24]))).trans hs) _ _ _ G (lv_sub hl [2, 0] rfl)
          have c24 : ¬ r_15 = 0 := c24
          refine lv_iconst (v := nI 1) Z.1 Z.2.1 dX8_either_27 (by decide +kernel) ?_
          refine lv_goto (tgt := 32) Z.1 Z.2.1 dX8_either_28 (by decide) ?_
          refine lv_istore_n (lv' := [(1, .int (nI 1)), (2, .int r_15), (0, .ref (b 100))]) Z.1 Z.2.1 dX8_either_32 rfl hl (by decide) rfl (fun ls hl => ?_)
          refine lv_goto (tgt := 5) Z.1 Z.2.1 dX8_either_33 (by decide) ?_
          exact ih5 (nI 1) p1_15 f9 (by omega) (by omega) (by exact hp_15) (by simp only [zg_lp] at hs; rw [if_pos hlv, hz_15] at hs; try simp only [] at hs; rw [htk] at hs; exact (congrArg (fun z => zg_lp (zm_tx tb TP TX) ln (zm_em NM) (zg (zm_tx tb TP TX) ln (zm_em NM) d 1 op) 0 f9 p1_15 z) (show (nI 1) :: ST = zm_em NM 124 0 (r_15 :: v :: ST) from congrArg (· :: ST) (by simp [zl_op, c20, c24]))).trans hs) _ _ _ G (lv_sub hl [2, 0] rfl)
    exact L5 _ r_1 p1_1 120 (Nat.lt_succ_self _) (by omega) (by exact hp_1) (by exact hV) _ _ _ G (lv_sub hl [1, 0] rfl)

theorem gmX8_both_X8_compared : GoodIn wmX8_both (wsV RX8 186 RX8 yX8_compared wmX8_compared) := goodIn_app (wa8_w (List.forall_mem_cons.mpr ⟨wa8_118, List.forall_mem_cons.mpr ⟨wa8_119, List.forall_mem_cons.mpr ⟨wa8_120, List.forall_mem_cons.mpr ⟨wa8_43, fun _ h => absurd h List.not_mem_nil⟩⟩⟩⟩)) (wa8_sub wa8_121)
theorem gmX8_both_X8_takes : GoodIn wmX8_both (wsV RX8 183 RX8 yX8_takes wmX8_takes) := goodIn_app (wa8_w (List.forall_mem_cons.mpr ⟨wa8_114, List.forall_mem_cons.mpr ⟨wa8_115, List.forall_mem_cons.mpr ⟨wa8_116, List.forall_mem_cons.mpr ⟨wa8_43, fun _ h => absurd h List.not_mem_nil⟩⟩⟩⟩)) (wa8_sub wa8_106)
set_option maxRecDepth 100000 in
set_option maxHeartbeats 2000000 in
theorem ct_X8_both_s (l : Launch) (D : va_G) (g : Nat → ClassId) (τ : Nat → Nat) (d : Nat) (ih : zm_L0 l D g τ d ∧ zm_L1 l D g τ d ∧ zm_L2 l D g τ d ∧ zm_L3 l D g τ d ∧ zm_L4 l D g τ d ∧ zm_L5 l D g τ d) : zm_L1 l D g τ (d + 1) := by
  intro b m ln p op tb TP TX NM ST hln hp ht hop hd
  refine zk_of (av := [.ref (b 100)]) (W0 := [(b 100, .inr (8, [.ref (b 0), .ref (b 1), .ref (b 2), .ref (b 3), .int (m 4), .int (m 5), .int (m 6), .int (m 7), .ref (b 8), .int (m 9), .ref (b 10), .int (m 11), .int (zm_bs tb), .int (nI p), .int (nI ln), .int (-1), .int (nI op), .ref (b 17), .ref (b 18), .ref (b 19), .ref (b 20), .ref (b 21), .ref (b 22), .ref (b 23), .ref (b 24), .int (m 25), .int (m 26), .int (m 27), .int (m 28), .ref (b 29), .ref (b 30), .int (m 31), .int (m 32), .int (m 33), .int (m 34), .int (m 35), .ref (b 36), .ref (b 37), .int (m 38), .ref (b 39), .ref (b 40), .int (m 41), .int (m 42), .int (m 43), .ref (b 44), .ref (b 45), .ref (b 46), .ref (b 47)])), (b 8, .inl (g 0, 120, .inl (fun i => nI (TP i)))), (b 10, .inl (g 0, 120, .inl (fun i => nI (TX i)))), (b 17, .inl (g 0, 6, .inl NM))]) (y := yX8_both) (wd := wmX8_both) (Qc := fun A => va_Qi (fun (r : Int32) (uu : Nat × Int32 × Int32) => zm_post (zg (zm_tx tb TP TX) ln (zm_em NM) (d + 1) 1 op p ST) r uu.1 uu.2.1 op uu.2.2 ST) (zk_B D g A (fun (uu : Nat × Int32 × Int32) => [(b 100, .inr (8, [.ref (b 0), .ref (b 1), .ref (b 2), .ref (b 3), .int (m 4), .int (m 5), .int (m 6), .int (m 7), .ref (b 8), .int (m 9), .ref (b 10), .int (m 11), .int (zm_bs tb), .int (nI uu.1), .int (nI ln), .int uu.2.1, .int uu.2.2, .ref (b 17), .ref (b 18), .ref (b 19), .ref (b 20), .ref (b 21), .ref (b 22), .ref (b 23), .ref (b 24), .int (m 25), .int (m 26), .int (m 27), .int (m 28), .ref (b 29), .ref (b 30), .int (m 31), .int (m 32), .int (m 33), .int (m 34), .int (m 35), .ref (b 36), .ref (b 37), .int (m 38), .ref (b 39), .ref (b 40), .int (m 41), .int (m 42), .int (m 43), .ref (b 44), .ref (b 45), .ref (b 46), .ref (b 47)])), (b 8, .inl (g 0, 120, .inl (fun i => nI (TP i)))), (b 10, .inl (g 0, 120, .inl (fun i => nI (TX i)))), (b 17, .inl (g 0, 6, .inl NM))])) A) (cc := cX8_both) (maxL := 3) (ret := (some .int)) (own := RX8) (by decide) rfl rfl (Nat.le_of_ble_eq_true rfl) ?_
  intro pP eE sS mM args below meth cC aA ls qQ Z hR_ hlk hnm hK hT hA hQ G hl
  refine lv_aload_n Z.1 Z.2.1 dX8_both_0 rfl (lv_at hl 0 rfl) ?_
  refine zk_ci (WF := fun uu => [(b 100, .inr (8, [.ref (b 0), .ref (b 1), .ref (b 2), .ref (b 3), .int (m 4), .int (m 5), .int (m 6), .int (m 7), .ref (b 8), .int (m 9), .ref (b 10), .int (m 11), .int (zm_bs tb), .int (nI uu.1), .int (nI ln), .int uu.2.1, .int uu.2.2, .ref (b 17), .ref (b 18), .ref (b 19), .ref (b 20), .ref (b 21), .ref (b 22), .ref (b 23), .ref (b 24), .int (m 25), .int (m 26), .int (m 27), .int (m 28), .ref (b 29), .ref (b 30), .int (m 31), .int (m 32), .int (m 33), .int (m 34), .int (m 35), .ref (b 36), .ref (b 37), .int (m 38), .ref (b 39), .ref (b 40), .int (m 41), .int (m 42), .int (m 43), .ref (b 44), .ref (b 45), .ref (b 46), .ref (b 47)])), (b 8, .inl (g 0, 120, .inl (fun i => nI (TP i)))), (b 10, .inl (g 0, 120, .inl (fun i => nI (TX i)))), (b 17, .inl (g 0, 6, .inl NM))]) (wr := []) ⟨rfl, rfl⟩ (zk_rv (As := []) (rest := []) (q0 := 0) (ci := 8) Z ((ih.2.2.1 b m ln p op tb TP TX NM ST (by exact hln) (by exact hp) (by exact ht) (by omega) (by omega)) sS.heap.size) hK hT hA G [0, 1, 2, 3] rfl (by decide) rfl rfl gmX8_both_X8_compared rfl dvX8_compared ⟨by first | decide | (simp only [rm_X8_either, rm_X8_both, rm_X8_compared, rm_X8_sums, rm_X8_product, rm_X8_one]; omega), by first | decide | (simp only [rm_X8_either, rm_X8_both, rm_X8_compared, rm_X8_sums, rm_X8_product, rm_X8_one]; omega)⟩ rfl hl.1 rfl (Nat.le_of_ble_eq_true rfl) dX8_both_1 ⟨Nat.zero_le _, Nat.zero_le _⟩) hA G [0, 1, 2, 3] [] [0, 1, 2, 3] rfl rfl (by decide) (by decide) (by decide) (fun _ => rfl) (fun r_1 uu H locs w_1 G => ?_)
  obtain ⟨p1_1, ft1_1, oq1_1⟩ := uu
  have G : zk_G D aA [(b 100, .inr (8, [.ref (b 0), .ref (b 1), .ref (b 2), .ref (b 3), .int (m 4), .int (m 5), .int (m 6), .int (m 7), .ref (b 8), .int (m 9), .ref (b 10), .int (m 11), .int (zm_bs tb), .int (nI p1_1), .int (nI ln), .int ft1_1, .int oq1_1, .ref (b 17), .ref (b 18), .ref (b 19), .ref (b 20), .ref (b 21), .ref (b 22), .ref (b 23), .ref (b 24), .int (m 25), .int (m 26), .int (m 27), .int (m 28), .ref (b 29), .ref (b 30), .int (m 31), .int (m 32), .int (m 33), .int (m 34), .int (m 35), .ref (b 36), .ref (b 37), .int (m 38), .ref (b 39), .ref (b 40), .int (m 41), .int (m 42), .int (m 43), .ref (b 44), .ref (b 45), .ref (b 46), .ref (b 47)])), (b 8, .inl (g 0, 120, .inl (fun i => nI (TP i)))), (b 10, .inl (g 0, 120, .inl (fun i => nI (TX i)))), (b 17, .inl (g 0, 6, .inl NM))] sS H locs := G
  have zb_1 := zg_le (em := zm_em NM) (ln := ln) ht d 2 (op) (p) (ST) (by omega) (by omega) (by omega) (by omega)
  rcases hz_1 : zg (zm_tx tb TP TX) ln (zm_em NM) d 2 (op) (p) (ST) with e | ⟨a9, s9⟩
  · obtain ⟨h1_1, h2_1⟩ := zm_pl w_1 hz_1
    obtain rfl : p1_1 = e := h1_1
    obtain rfl : ft1_1 = nI p1_1 := h2_1
    have hb_1 := zb_1
    rw [hz_1] at hb_1
    have hp_1 : p1_1 ≤ ln := hb_1.2
    refine lv_istore_n (lv' := [(1, .int r_1), (0, .ref (b 100))]) Z.1 Z.2.1 dX8_both_4 rfl hl (by decide) rfl (fun ls hl => ?_)
    refine lv_aload_n Z.1 Z.2.1 dX8_both_5 rfl (lv_at hl 1 rfl) ?_
    refine lv_bipush (v := nI 38) Z.1 Z.2.1 dX8_both_6 (by decide +kernel) ?_
    refine zk_ci (WF := fun (_ : Unit) => [(b 100, .inr (8, [.ref (b 0), .ref (b 1), .ref (b 2), .ref (b 3), .int (m 4), .int (m 5), .int (m 6), .int (m 7), .ref (b 8), .int (m 9), .ref (b 10), .int (m 11), .int (zm_bs tb), .int (nI (if (decide ((nI p1_1 : Int32) < 0) && decide (zg_c (zm_tx tb TP TX) ln p1_1 = 38)) = true then p1_1 + 1 else p1_1)), .int (nI ln), .int (nI p1_1), .int oq1_1, .ref (b 17), .ref (b 18), .ref (b 19), .ref (b 20), .ref (b 21), .ref (b 22), .ref (b 23), .ref (b 24), .int (m 25), .int (m 26), .int (m 27), .int (m 28), .ref (b 29), .ref (b 30), .int (m 31), .int (m 32), .int (m 33), .int (m 34), .int (m 35), .ref (b 36), .ref (b 37), .int (m 38), .ref (b 39), .ref (b 40), .int (m 41), .int (m 42), .int (m 43), .ref (b 44), .ref (b 45), .ref (b 46), .ref (b 47)])), (b 8, .inl (g 0, 120, .inl (fun i => nI (TP i)))), (b 10, .inl (g 0, 120, .inl (fun i => nI (TX i)))), (b 17, .inl (g 0, 6, .inl NM))]) (wr := [(b 17, .inl (g 0, 6, .inl NM))]) ⟨rfl, rfl⟩ (zk_rv (As := [.int (nI 38)]) (rest := []) (q0 := 0) (ci := 8) Z ((ct_X8_takes l D g τ b m ln p1_1 (nI p1_1) tb TP TX oq1_1 38 (by exact hln) (by omega) (by exact ht) (by decide)) H.size) hK hT hA G [0, 1, 2] rfl (by decide) rfl rfl gmX8_both_X8_takes rfl dvX8_takes ⟨by first | decide | (simp only [rm_X8_either, rm_X8_both, rm_X8_compared, rm_X8_sums, rm_X8_product, rm_X8_one]; omega), by first | decide | (simp only [rm_X8_either, rm_X8_both, rm_X8_compared, rm_X8_sums, rm_X8_product, rm_X8_one]; omega)⟩ rfl hl.1 rfl (Nat.le_of_ble_eq_true rfl) dX8_both_8 ⟨Nat.zero_le _, Nat.zero_le _⟩) hA G [0, 1, 2] [3] [1, 2, 3, 0] rfl rfl (by decide) (by decide) (by decide) (fun _ => rfl) (fun r_8 _ H locs w_8 G => ?_)
    obtain rfl : r_8 = zk_b (decide ((nI p1_1 : Int32) < 0) && decide (zg_c (zm_tx tb TP TX) ln p1_1 = 38)) := w_8
    refine lv_if_eq (tgt := 36) Z.1 Z.2.1 dX8_both_11 (by decide) (fun c11 => ?_) (fun c11 => ?_)
    · have c11 : (decide ((nI p1_1 : Int32) < 0) && decide (zg_c (zm_tx tb TP TX) ln p1_1 = 38)) = false := zk_b0.mp c11
      have G : zk_G D aA [(b 100, .inr (8, [.ref (b 0), .ref (b 1), .ref (b 2), .ref (b 3), .int (m 4), .int (m 5), .int (m 6), .int (m 7), .ref (b 8), .int (m 9), .ref (b 10), .int (m 11), .int (zm_bs tb), .int (nI p1_1), .int (nI ln), .int (nI p1_1), .int oq1_1, .ref (b 17), .ref (b 18), .ref (b 19), .ref (b 20), .ref (b 21), .ref (b 22), .ref (b 23), .ref (b 24), .int (m 25), .int (m 26), .int (m 27), .int (m 28), .ref (b 29), .ref (b 30), .int (m 31), .int (m 32), .int (m 33), .int (m 34), .int (m 35), .ref (b 36), .ref (b 37), .int (m 38), .ref (b 39), .ref (b 40), .int (m 41), .int (m 42), .int (m 43), .ref (b 44), .ref (b 45), .ref (b 46), .ref (b 47)])), (b 8, .inl (g 0, 120, .inl (fun i => nI (TP i)))), (b 10, .inl (g 0, 120, .inl (fun i => nI (TX i)))), (b 17, .inl (g 0, 6, .inl NM))] sS H locs := (by rw [if_neg (by rw [zm_fl (show p1_1 < 2 ^ 31 by omega)]; simp)] at G; exact G)
      refine lv_iload_n Z.1 Z.2.1 dX8_both_36 rfl (lv_at hl 0 rfl) ?_
      exact zk_reti Z hR_ hlk hK hQ G (p1_1, nI p1_1, oq1_1) (by simp only [zg]; rw [if_pos (by decide), hz_1]; exact ⟨rfl, rfl⟩) rfl dX8_both_37
    exfalso
    have c11 : (decide ((nI p1_1 : Int32) < 0) && decide (zg_c (zm_tx tb TP TX) ln p1_1 = 38)) = true := zk_b1.mp c11
    have h9 := c11; rw [zm_fl (show p1_1 < 2 ^ 31 by omega)] at h9; exact absurd h9 (by simp)
  · obtain ⟨h1_1, h2_1, h3_1, h4_1⟩ := zm_pr w_1 hz_1
    obtain rfl : p1_1 = a9 := h1_1
    obtain rfl : ft1_1 = -1 := h2_1
    obtain rfl : oq1_1 = nI (op) := h3_1
    obtain rfl : s9 = r_1 :: ST := h4_1
    have hb_1 := zb_1
    rw [hz_1] at hb_1
    have hp_1 : p1_1 ≤ ln := hb_1.2
    have hq_1 : p ≤ p1_1 := hb_1.1
    have hV : zg_lp (zm_tx tb TP TX) ln (zm_em NM) (zg (zm_tx tb TP TX) ln (zm_em NM) d 2 op) 1 120 p1_1 (r_1 :: ST) = zg (zm_tx tb TP TX) ln (zm_em NM) (d + 1) 1 op p ST := by simp only [zg]; rw [if_pos (by decide), hz_1]; rfl
    refine lv_istore_n (lv' := [(1, .int r_1), (0, .ref (b 100))]) Z.1 Z.2.1 dX8_both_4 rfl hl (by decide) rfl (fun ls hl => ?_)
    have L5 : ∀ (nN : Nat) (v : Int32) (p2 : Nat) (f : Nat), f < nN → (120 ≤ p2 + f) → (p2 ≤ ln) → (zg_lp (zm_tx tb TP TX) ln (zm_em NM) (zg (zm_tx tb TP TX) ln (zm_em NM) d 2 op) 1 f p2 (v :: ST) = zg (zm_tx tb TP TX) ln (zm_em NM) (d + 1) 1 op p ST) → ∀ (H : Heap) (locs : List Loc) (ls : Array Slot), zk_G D aA [(b 100, .inr (8, [.ref (b 0), .ref (b 1), .ref (b 2), .ref (b 3), .int (m 4), .int (m 5), .int (m 6), .int (m 7), .ref (b 8), .int (m 9), .ref (b 10), .int (m 11), .int (zm_bs tb), .int (nI p2), .int (nI ln), .int (-1), .int (nI op), .ref (b 17), .ref (b 18), .ref (b 19), .ref (b 20), .ref (b 21), .ref (b 22), .ref (b 23), .ref (b 24), .int (m 25), .int (m 26), .int (m 27), .int (m 28), .ref (b 29), .ref (b 30), .int (m 31), .int (m 32), .int (m 33), .int (m 34), .int (m 35), .ref (b 36), .ref (b 37), .int (m 38), .ref (b 39), .ref (b 40), .int (m 41), .int (m 42), .int (m 43), .ref (b 44), .ref (b 45), .ref (b 46), .ref (b 47)])), (b 8, .inl (g 0, 120, .inl (fun i => nI (TP i)))), (b 10, .inl (g 0, 120, .inl (fun i => nI (TX i)))), (b 17, .inl (g 0, 6, .inl NM))] sS H locs → lv_has ls 3 [(0, .ref (b 100)), (1, .int v)] → W pP l eE (rm_X8_both (d + 1)) sS mM args below meth cC H locs 0 0 qQ (F0 mM 5 ls []) := by
      intro nN
      induction nN with
      | zero => intros; omega
      | succ nN ih5 =>
        intro v p2 f hμ hpf hp2 hs H locs ls G hl
        have hcb := zg_c_256 (ln := ln) ht p2
        refine lv_aload_n Z.1 Z.2.1 dX8_both_5 rfl (lv_at hl 0 rfl) ?_
        refine lv_bipush (v := nI 38) Z.1 Z.2.1 dX8_both_6 (by decide +kernel) ?_
        refine zk_ci (WF := fun (_ : Unit) => [(b 100, .inr (8, [.ref (b 0), .ref (b 1), .ref (b 2), .ref (b 3), .int (m 4), .int (m 5), .int (m 6), .int (m 7), .ref (b 8), .int (m 9), .ref (b 10), .int (m 11), .int (zm_bs tb), .int (nI (if (decide (((-1) : Int32) < 0) && decide (zg_c (zm_tx tb TP TX) ln p2 = 38)) = true then p2 + 1 else p2)), .int (nI ln), .int (-1), .int (nI op), .ref (b 17), .ref (b 18), .ref (b 19), .ref (b 20), .ref (b 21), .ref (b 22), .ref (b 23), .ref (b 24), .int (m 25), .int (m 26), .int (m 27), .int (m 28), .ref (b 29), .ref (b 30), .int (m 31), .int (m 32), .int (m 33), .int (m 34), .int (m 35), .ref (b 36), .ref (b 37), .int (m 38), .ref (b 39), .ref (b 40), .int (m 41), .int (m 42), .int (m 43), .ref (b 44), .ref (b 45), .ref (b 46), .ref (b 47)])), (b 8, .inl (g 0, 120, .inl (fun i => nI (TP i)))), (b 10, .inl (g 0, 120, .inl (fun i => nI (TX i)))), (b 17, .inl (g 0, 6, .inl NM))]) (wr := [(b 17, .inl (g 0, 6, .inl NM))]) ⟨rfl, rfl⟩ (zk_rv (As := [.int (nI 38)]) (rest := []) (q0 := 0) (ci := 8) Z ((ct_X8_takes l D g τ b m ln p2 (-1) tb TP TX (nI op) 38 (by exact hln) (by omega) (by exact ht) (by decide)) H.size) hK hT hA G [0, 1, 2] rfl (by decide) rfl rfl gmX8_both_X8_takes rfl dvX8_takes ⟨by first | decide | (simp only [rm_X8_either, rm_X8_both, rm_X8_compared, rm_X8_sums, rm_X8_product, rm_X8_one]; omega), by first | decide | (simp only [rm_X8_either, rm_X8_both, rm_X8_compared, rm_X8_sums, rm_X8_product, rm_X8_one]; omega)⟩ rfl hl.1 rfl (Nat.le_of_ble_eq_true rfl) dX8_both_8 ⟨Nat.zero_le _, Nat.zero_le _⟩) hA G [0, 1, 2] [3] [1, 2, 3, 0] rfl rfl (by decide) (by decide) (by decide) (fun _ => rfl) (fun r_8 _ H locs w_8 G => ?_)
        obtain rfl : r_8 = zk_b (decide (((-1) : Int32) < 0) && decide (zg_c (zm_tx tb TP TX) ln p2 = 38)) := w_8
        refine lv_if_eq (tgt := 36) Z.1 Z.2.1 dX8_both_11 (by decide) (fun c11 => ?_) (fun c11 => ?_)
        · have c11 : (decide (((-1) : Int32) < 0) && decide (zg_c (zm_tx tb TP TX) ln p2 = 38)) = false := zk_b0.mp c11
          have hno9 : ¬ zg_c (zm_tx tb TP TX) ln p2 = 38 := fun q9 => by have h9 := c11; rw [decide_eq_true q9] at h9; exact absurd h9 (by decide)
          have hst9 : ¬ zg_lev (zg_c (zm_tx tb TP TX) ln p2) = 1 := fun q9 => hno9 (zg_lev_1c.mp q9)
          have G : zk_G D aA [(b 100, .inr (8, [.ref (b 0), .ref (b 1), .ref (b 2), .ref (b 3), .int (m 4), .int (m 5), .int (m 6), .int (m 7), .ref (b 8), .int (m 9), .ref (b 10), .int (m 11), .int (zm_bs tb), .int (nI p2), .int (nI ln), .int (-1), .int (nI op), .ref (b 17), .ref (b 18), .ref (b 19), .ref (b 20), .ref (b 21), .ref (b 22), .ref (b 23), .ref (b 24), .int (m 25), .int (m 26), .int (m 27), .int (m 28), .ref (b 29), .ref (b 30), .int (m 31), .int (m 32), .int (m 33), .int (m 34), .int (m 35), .ref (b 36), .ref (b 37), .int (m 38), .ref (b 39), .ref (b 40), .int (m 41), .int (m 42), .int (m 43), .ref (b 44), .ref (b 45), .ref (b 46), .ref (b 47)])), (b 8, .inl (g 0, 120, .inl (fun i => nI (TP i)))), (b 10, .inl (g 0, 120, .inl (fun i => nI (TX i)))), (b 17, .inl (g 0, 6, .inl NM))] sS H locs := (by rw [if_neg (by rw [c11]; decide)] at G; exact G)
          refine lv_iload_n Z.1 Z.2.1 dX8_both_36 rfl (lv_at hl 1 rfl) ?_
          exact zk_reti Z hR_ hlk hK hQ G (p2, (-1), nI op) (by rw [← hs, zg_lp_stop hst9]; exact ⟨rfl, rfl, rfl, rfl⟩) rfl dX8_both_37
        have c11 : (decide (((-1) : Int32) < 0) && decide (zg_c (zm_tx tb TP TX) ln p2 = 38)) = true := zk_b1.mp c11
        have htk : zg_c (zm_tx tb TP TX) ln p2 = 38 := of_decide_eq_true (Bool.and_eq_true _ _ ▸ c11).2
        have hlv : zg_lev (zg_c (zm_tx tb TP TX) ln p2) = 1 := by rw [htk]; rfl
        have hpl : p2 < ln := zg_c_lt (tp := (zm_tx tb TP TX)) (by rw [htk]; decide)
        obtain ⟨f9, rfl⟩ : ∃ f9, f = f9 + 1 := ⟨f - 1, by omega⟩
        have G : zk_G D aA [(b 100, .inr (8, [.ref (b 0), .ref (b 1), .ref (b 2), .ref (b 3), .int (m 4), .int (m 5), .int (m 6), .int (m 7), .ref (b 8), .int (m 9), .ref (b 10), .int (m 11), .int (zm_bs tb), .int (nI (p2 + 1)), .int (nI ln), .int (-1), .int (nI op), .ref (b 17), .ref (b 18), .ref (b 19), .ref (b 20), .ref (b 21), .ref (b 22), .ref (b 23), .ref (b 24), .int (m 25), .int (m 26), .int (m 27), .int (m 28), .ref (b 29), .ref (b 30), .int (m 31), .int (m 32), .int (m 33), .int (m 34), .int (m 35), .ref (b 36), .ref (b 37), .int (m 38), .ref (b 39), .ref (b 40), .int (m 41), .int (m 42), .int (m 43), .ref (b 44), .ref (b 45), .ref (b 46), .ref (b 47)])), (b 8, .inl (g 0, 120, .inl (fun i => nI (TP i)))), (b 10, .inl (g 0, 120, .inl (fun i => nI (TX i)))), (b 17, .inl (g 0, 6, .inl NM))] sS H locs := (by rw [if_pos c11] at G; exact G)
        refine lv_aload_n Z.1 Z.2.1 dX8_both_14 rfl (lv_at hl 0 rfl) ?_
        refine zk_ci (WF := fun uu => [(b 100, .inr (8, [.ref (b 0), .ref (b 1), .ref (b 2), .ref (b 3), .int (m 4), .int (m 5), .int (m 6), .int (m 7), .ref (b 8), .int (m 9), .ref (b 10), .int (m 11), .int (zm_bs tb), .int (nI uu.1), .int (nI ln), .int uu.2.1, .int uu.2.2, .ref (b 17), .ref (b 18), .ref (b 19), .ref (b 20), .ref (b 21), .ref (b 22), .ref (b 23), .ref (b 24), .int (m 25), .int (m 26), .int (m 27), .int (m 28), .ref (b 29), .ref (b 30), .int (m 31), .int (m 32), .int (m 33), .int (m 34), .int (m 35), .ref (b 36), .ref (b 37), .int (m 38), .ref (b 39), .ref (b 40), .int (m 41), .int (m 42), .int (m 43), .ref (b 44), .ref (b 45), .ref (b 46), .ref (b 47)])), (b 8, .inl (g 0, 120, .inl (fun i => nI (TP i)))), (b 10, .inl (g 0, 120, .inl (fun i => nI (TX i)))), (b 17, .inl (g 0, 6, .inl NM))]) (wr := []) ⟨rfl, rfl⟩ (zk_rv (As := []) (rest := []) (q0 := 0) (ci := 8) Z ((ih.2.2.1 b m ln (p2 + 1) op tb TP TX NM (v :: ST) (by exact hln) (by omega) (by exact ht) (by omega) (by omega)) H.size) hK hT hA G [0, 1, 2, 3] rfl (by decide) rfl rfl gmX8_both_X8_compared rfl dvX8_compared ⟨by first | decide | (simp only [rm_X8_either, rm_X8_both, rm_X8_compared, rm_X8_sums, rm_X8_product, rm_X8_one]; omega), by first | decide | (simp only [rm_X8_either, rm_X8_both, rm_X8_compared, rm_X8_sums, rm_X8_product, rm_X8_one]; omega)⟩ rfl hl.1 rfl (Nat.le_of_ble_eq_true rfl) dX8_both_15 ⟨Nat.zero_le _, Nat.zero_le _⟩) hA G [0, 1, 2, 3] [] [0, 1, 2, 3] rfl rfl (by decide) (by decide) (by decide) (fun _ => rfl) (fun r_15 uu H locs w_15 G => ?_)
        obtain ⟨p1_15, ft1_15, oq1_15⟩ := uu
        have G : zk_G D aA [(b 100, .inr (8, [.ref (b 0), .ref (b 1), .ref (b 2), .ref (b 3), .int (m 4), .int (m 5), .int (m 6), .int (m 7), .ref (b 8), .int (m 9), .ref (b 10), .int (m 11), .int (zm_bs tb), .int (nI p1_15), .int (nI ln), .int ft1_15, .int oq1_15, .ref (b 17), .ref (b 18), .ref (b 19), .ref (b 20), .ref (b 21), .ref (b 22), .ref (b 23), .ref (b 24), .int (m 25), .int (m 26), .int (m 27), .int (m 28), .ref (b 29), .ref (b 30), .int (m 31), .int (m 32), .int (m 33), .int (m 34), .int (m 35), .ref (b 36), .ref (b 37), .int (m 38), .ref (b 39), .ref (b 40), .int (m 41), .int (m 42), .int (m 43), .ref (b 44), .ref (b 45), .ref (b 46), .ref (b 47)])), (b 8, .inl (g 0, 120, .inl (fun i => nI (TP i)))), (b 10, .inl (g 0, 120, .inl (fun i => nI (TX i)))), (b 17, .inl (g 0, 6, .inl NM))] sS H locs := G
        have zb_15 := zg_le (em := zm_em NM) (ln := ln) ht d 2 (op) (p2 + 1) (v :: ST) (by omega) (by omega) (by omega) (by omega)
        rcases hz_15 : zg (zm_tx tb TP TX) ln (zm_em NM) d 2 (op) (p2 + 1) (v :: ST) with e | ⟨a9, s9⟩
        · obtain ⟨h1_15, h2_15⟩ := zm_pl w_15 hz_15
          obtain rfl : p1_15 = e := h1_15
          obtain rfl : ft1_15 = nI p1_15 := h2_15
          have hb_15 := zb_15
          rw [hz_15] at hb_15
          have hp_15 : p1_15 ≤ ln := hb_15.2
          refine lv_istore_n (lv' := [(2, .int r_15), (0, .ref (b 100)), (1, .int v)]) Z.1 Z.2.1 dX8_both_18 rfl hl (by decide) rfl (fun ls hl => ?_)
          refine lv_iload_n Z.1 Z.2.1 dX8_both_19 rfl (lv_at hl 2 rfl) ?_
          refine lv_if_eq (tgt := 31) Z.1 Z.2.1 dX8_both_20 (by decide) (fun c20 => ?_) (fun c20 => ?_)
          · have c20 : v = 0 := c20
            refine lv_iconst (v := nI 0) Z.1 Z.2.1 dX8_both_31 (by decide +kernel) ?_
            refine lv_istore_n (lv' := [(1, .int (nI 0)), (2, .int r_15), (0, .ref (b 100))]) Z.1 Z.2.1 dX8_both_32 rfl hl (by decide) rfl (fun ls hl => ?_)
            refine lv_goto (tgt := 5) Z.1 Z.2.1 dX8_both_33 (by decide) ?_
            refine lv_aload_n Z.1 Z.2.1 dX8_both_5 rfl (lv_at hl 2 rfl) ?_
            refine lv_bipush (v := nI 38) Z.1 Z.2.1 dX8_both_6 (by decide +kernel) ?_
            refine zk_ci (WF := fun (_ : Unit) => [(b 100, .inr (8, [.ref (b 0), .ref (b 1), .ref (b 2), .ref (b 3), .int (m 4), .int (m 5), .int (m 6), .int (m 7), .ref (b 8), .int (m 9), .ref (b 10), .int (m 11), .int (zm_bs tb), .int (nI (if (decide ((nI p1_15 : Int32) < 0) && decide (zg_c (zm_tx tb TP TX) ln p1_15 = 38)) = true then p1_15 + 1 else p1_15)), .int (nI ln), .int (nI p1_15), .int oq1_15, .ref (b 17), .ref (b 18), .ref (b 19), .ref (b 20), .ref (b 21), .ref (b 22), .ref (b 23), .ref (b 24), .int (m 25), .int (m 26), .int (m 27), .int (m 28), .ref (b 29), .ref (b 30), .int (m 31), .int (m 32), .int (m 33), .int (m 34), .int (m 35), .ref (b 36), .ref (b 37), .int (m 38), .ref (b 39), .ref (b 40), .int (m 41), .int (m 42), .int (m 43), .ref (b 44), .ref (b 45), .ref (b 46), .ref (b 47)])), (b 8, .inl (g 0, 120, .inl (fun i => nI (TP i)))), (b 10, .inl (g 0, 120, .inl (fun i => nI (TX i)))), (b 17, .inl (g 0, 6, .inl NM))]) (wr := [(b 17, .inl (g 0, 6, .inl NM))]) ⟨rfl, rfl⟩ (zk_rv (As := [.int (nI 38)]) (rest := []) (q0 := 0) (ci := 8) Z ((ct_X8_takes l D g τ b m ln p1_15 (nI p1_15) tb TP TX oq1_15 38 (by exact hln) (by omega) (by exact ht) (by decide)) H.size) hK hT hA G [0, 1, 2] rfl (by decide) rfl rfl gmX8_both_X8_takes rfl dvX8_takes ⟨by first | decide | (simp only [rm_X8_either, rm_X8_both, rm_X8_compared, rm_X8_sums, rm_X8_product, rm_X8_one]; omega), by first | decide | (simp only [rm_X8_either, rm_X8_both, rm_X8_compared, rm_X8_sums, rm_X8_product, rm_X8_one]; omega)⟩ rfl hl.1 rfl (Nat.le_of_ble_eq_true rfl) dX8_both_8 ⟨Nat.zero_le _, Nat.zero_le _⟩) hA G [0, 1, 2] [3] [1, 2, 3, 0] rfl rfl (by decide) (by decide) (by decide) (fun _ => rfl) (fun r_8 _ H locs w_8 G => ?_)
            obtain rfl : r_8 = zk_b (decide ((nI p1_15 : Int32) < 0) && decide (zg_c (zm_tx tb TP TX) ln p1_15 = 38)) := w_8
            refine lv_if_eq (tgt := 36) Z.1 Z.2.1 dX8_both_11 (by decide) (fun c11 => ?_) (fun c11 => ?_)
            · have c11 : (decide ((nI p1_15 : Int32) < 0) && decide (zg_c (zm_tx tb TP TX) ln p1_15 = 38)) = false := zk_b0.mp c11
              have G : zk_G D aA [(b 100, .inr (8, [.ref (b 0), .ref (b 1), .ref (b 2), .ref (b 3), .int (m 4), .int (m 5), .int (m 6), .int (m 7), .ref (b 8), .int (m 9), .ref (b 10), .int (m 11), .int (zm_bs tb), .int (nI p1_15), .int (nI ln), .int (nI p1_15), .int oq1_15, .ref (b 17), .ref (b 18), .ref (b 19), .ref (b 20), .ref (b 21), .ref (b 22), .ref (b 23), .ref (b 24), .int (m 25), .int (m 26), .int (m 27), .int (m 28), .ref (b 29), .ref (b 30), .int (m 31), .int (m 32), .int (m 33), .int (m 34), .int (m 35), .ref (b 36), .ref (b 37), .int (m 38), .ref (b 39), .ref (b 40), .int (m 41), .int (m 42), .int (m 43), .ref (b 44), .ref (b 45), .ref (b 46), .ref (b 47)])), (b 8, .inl (g 0, 120, .inl (fun i => nI (TP i)))), (b 10, .inl (g 0, 120, .inl (fun i => nI (TX i)))), (b 17, .inl (g 0, 6, .inl NM))] sS H locs := (by rw [if_neg (by rw [zm_fl (show p1_15 < 2 ^ 31 by omega)]; simp)] at G; exact G)
              refine lv_iload_n Z.1 Z.2.1 dX8_both_36 rfl (lv_at hl 0 rfl) ?_
              exact zk_reti Z hR_ hlk hK hQ G (p1_15, nI p1_15, oq1_15) (by rw [← hs]; simp only [zg_lp]; rw [if_pos hlv, hz_15]; exact ⟨rfl, rfl⟩) rfl dX8_both_37
            exfalso
            have c11 : (decide ((nI p1_15 : Int32) < 0) && decide (zg_c (zm_tx tb TP TX) ln p1_15 = 38)) = true := zk_b1.mp c11
            have h9 := c11; rw [zm_fl (show p1_15 < 2 ^ 31 by omega)] at h9; exact absurd h9 (by simp)
          have c20 : ¬ v = 0 := c20
          refine lv_iload_n Z.1 Z.2.1 dX8_both_23 rfl (lv_at hl 0 rfl) ?_
          refine lv_if_eq (tgt := 31) Z.1 Z.2.1 dX8_both_24 (by decide) (fun c24 => ?_) (fun c24 => ?_)
          · have c24 : r_15 = 0 := c24
            refine lv_iconst (v := nI 0) Z.1 Z.2.1 dX8_both_31 (by decide +kernel) ?_
            refine lv_istore_n (lv' := [(1, .int (nI 0)), (2, .int r_15), (0, .ref (b 100))]) Z.1 Z.2.1 dX8_both_32 rfl hl (by decide) rfl (fun ls hl => ?_)
            refine lv_goto (tgt := 5) Z.1 Z.2.1 dX8_both_33 (by decide) ?_
            refine lv_aload_n Z.1 Z.2.1 dX8_both_5 rfl (lv_at hl 2 rfl) ?_
            refine lv_bipush (v := nI 38) Z.1 Z.2.1 dX8_both_6 (by decide +kernel) ?_
            refine zk_ci (WF := fun (_ : Unit) => [(b 100, .inr (8, [.ref (b 0), .ref (b 1), .ref (b 2), .ref (b 3), .int (m 4), .int (m 5), .int (m 6), .int (m 7), .ref (b 8), .int (m 9), .ref (b 10), .int (m 11), .int (zm_bs tb), .int (nI (if (decide ((nI p1_15 : Int32) < 0) && decide (zg_c (zm_tx tb TP TX) ln p1_15 = 38)) = true then p1_15 + 1 else p1_15)), .int (nI ln), .int (nI p1_15), .int oq1_15, .ref (b 17), .ref (b 18), .ref (b 19), .ref (b 20), .ref (b 21), .ref (b 22), .ref (b 23), .ref (b 24), .int (m 25), .int (m 26), .int (m 27), .int (m 28), .ref (b 29), .ref (b 30), .int (m 31), .int (m 32), .int (m 33), .int (m 34), .int (m 35), .ref (b 36), .ref (b 37), .int (m 38), .ref (b 39), .ref (b 40), .int (m 41), .int (m 42), .int (m 43), .ref (b 44), .ref (b 45), .ref (b 46), .ref (b 47)])), (b 8, .inl (g 0, 120, .inl (fun i => nI (TP i)))), (b 10, .inl (g 0, 120, .inl (fun i => nI (TX i)))), (b 17, .inl (g 0, 6, .inl NM))]) (wr := [(b 17, .inl (g 0, 6, .inl NM))]) ⟨rfl, rfl⟩ (zk_rv (As := [.int (nI 38)]) (rest := []) (q0 := 0) (ci := 8) Z ((ct_X8_takes l D g τ b m ln p1_15 (nI p1_15) tb TP TX oq1_15 38 (by exact hln) (by omega) (by exact ht) (by decide)) H.size) hK hT hA G [0, 1, 2] rfl (by decide) rfl rfl gmX8_both_X8_takes rfl dvX8_takes ⟨by first | decide | (simp only [rm_X8_either, rm_X8_both, rm_X8_compared, rm_X8_sums, rm_X8_product, rm_X8_one]; omega), by first | decide | (simp only [rm_X8_either, rm_X8_both, rm_X8_compared, rm_X8_sums, rm_X8_product, rm_X8_one]; omega)⟩ rfl hl.1 rfl (Nat.le_of_ble_eq_true rfl) dX8_both_8 ⟨Nat.zero_le _, Nat.zero_le _⟩) hA G [0, 1, 2] [3] [1, 2, 3, 0] rfl rfl (by decide) (by decide) (by decide) (fun _ => rfl) (fun r_8 _ H locs w_8 G => ?_)
            obtain rfl : r_8 = zk_b (decide ((nI p1_15 : Int32) < 0) && decide (zg_c (zm_tx tb TP TX) ln p1_15 = 38)) := w_8
            refine lv_if_eq (tgt := 36) Z.1 Z.2.1 dX8_both_11 (by decide) (fun c11 => ?_) (fun c11 => ?_)
            · have c11 : (decide ((nI p1_15 : Int32) < 0) && decide (zg_c (zm_tx tb TP TX) ln p1_15 = 38)) = false := zk_b0.mp c11
              have G : zk_G D aA [(b 100, .inr (8, [.ref (b 0), .ref (b 1), .ref (b 2), .ref (b 3), .int (m 4), .int (m 5), .int (m 6), .int (m 7), .ref (b 8), .int (m 9), .ref (b 10), .int (m 11), .int (zm_bs tb), .int (nI p1_15), .int (nI ln), .int (nI p1_15), .int oq1_15, .ref (b 17), .ref (b 18), .ref (b 19), .ref (b 20), .ref (b 21), .ref (b 22), .ref (b 23), .ref (b 24), .int (m 25), .int (m 26), .int (m 27), .int (m 28), .ref (b 29), .ref (b 30), .int (m 31), .int (m 32), .int (m 33), .int (m 34), .int (m 35), .ref (b 36), .ref (b 37), .int (m 38), .ref (b 39), .ref (b 40), .int (m 41), .int (m 42), .int (m 43), .ref (b 44), .ref (b 45), .ref (b 46), .ref (b 47)])), (b 8, .inl (g 0, 120, .inl (fun i => nI (TP i)))), (b 10, .inl (g 0, 120, .inl (fun i => nI (TX i)))), (b 17, .inl (g 0, 6, .inl NM))] sS H locs := (by rw [if_neg (by rw [zm_fl (show p1_15 < 2 ^ 31 by omega)]; simp)] at G; exact G)
              refine lv_iload_n Z.1 Z.2.1 dX8_both_36 rfl (lv_at hl 0 rfl) ?_
              exact zk_reti Z hR_ hlk hK hQ G (p1_15, nI p1_15, oq1_15) (by rw [← hs]; simp only [zg_lp]; rw [if_pos hlv, hz_15]; exact ⟨rfl, rfl⟩) rfl dX8_both_37
            exfalso
            have c11 : (decide ((nI p1_15 : Int32) < 0) && decide (zg_c (zm_tx tb TP TX) ln p1_15 = 38)) = true := zk_b1.mp c11
            have h9 := c11; rw [zm_fl (show p1_15 < 2 ^ 31 by omega)] at h9; exact absurd h9 (by simp)
          have c24 : ¬ r_15 = 0 := c24
          refine lv_iconst (v := nI 1) Z.1 Z.2.1 dX8_both_27 (by decide +kernel) ?_
          refine lv_goto (tgt := 32) Z.1 Z.2.1 dX8_both_28 (by decide) ?_
          refine lv_istore_n (lv' := [(1, .int (nI 1)), (2, .int r_15), (0, .ref (b 100))]) Z.1 Z.2.1 dX8_both_32 rfl hl (by decide) rfl (fun ls hl => ?_)
          refine lv_goto (tgt := 5) Z.1 Z.2.1 dX8_both_33 (by decide) ?_
          refine lv_aload_n Z.1 Z.2.1 dX8_both_5 rfl (lv_at hl 2 rfl) ?_
          refine lv_bipush (v := nI 38) Z.1 Z.2.1 dX8_both_6 (by decide +kernel) ?_
          refine zk_ci (WF := fun (_ : Unit) => [(b 100, .inr (8, [.ref (b 0), .ref (b 1), .ref (b 2), .ref (b 3), .int (m 4), .int (m 5), .int (m 6), .int (m 7), .ref (b 8), .int (m 9), .ref (b 10), .int (m 11), .int (zm_bs tb), .int (nI (if (decide ((nI p1_15 : Int32) < 0) && decide (zg_c (zm_tx tb TP TX) ln p1_15 = 38)) = true then p1_15 + 1 else p1_15)), .int (nI ln), .int (nI p1_15), .int oq1_15, .ref (b 17), .ref (b 18), .ref (b 19), .ref (b 20), .ref (b 21), .ref (b 22), .ref (b 23), .ref (b 24), .int (m 25), .int (m 26), .int (m 27), .int (m 28), .ref (b 29), .ref (b 30), .int (m 31), .int (m 32), .int (m 33), .int (m 34), .int (m 35), .ref (b 36), .ref (b 37), .int (m 38), .ref (b 39), .ref (b 40), .int (m 41), .int (m 42), .int (m 43), .ref (b 44), .ref (b 45), .ref (b 46), .ref (b 47)])), (b 8, .inl (g 0, 120, .inl (fun i => nI (TP i)))), (b 10, .inl (g 0, 120, .inl (fun i => nI (TX i)))), (b 17, .inl (g 0, 6, .inl NM))]) (wr := [(b 17, .inl (g 0, 6, .inl NM))]) ⟨rfl, rfl⟩ (zk_rv (As := [.int (nI 38)]) (rest := []) (q0 := 0) (ci := 8) Z ((ct_X8_takes l D g τ b m ln p1_15 (nI p1_15) tb TP TX oq1_15 38 (by exact hln) (by omega) (by exact ht) (by decide)) H.size) hK hT hA G [0, 1, 2] rfl (by decide) rfl rfl gmX8_both_X8_takes rfl dvX8_takes ⟨by first | decide | (simp only [rm_X8_either, rm_X8_both, rm_X8_compared, rm_X8_sums, rm_X8_product, rm_X8_one]; omega), by first | decide | (simp only [rm_X8_either, rm_X8_both, rm_X8_compared, rm_X8_sums, rm_X8_product, rm_X8_one]; omega)⟩ rfl hl.1 rfl (Nat.le_of_ble_eq_true rfl) dX8_both_8 ⟨Nat.zero_le _, Nat.zero_le _⟩) hA G [0, 1, 2] [3] [1, 2, 3, 0] rfl rfl (by decide) (by decide) (by decide) (fun _ => rfl) (fun r_8 _ H locs w_8 G => ?_)
          obtain rfl : r_8 = zk_b (decide ((nI p1_15 : Int32) < 0) && decide (zg_c (zm_tx tb TP TX) ln p1_15 = 38)) := w_8
          refine lv_if_eq (tgt := 36) Z.1 Z.2.1 dX8_both_11 (by decide) (fun c11 => ?_) (fun c11 => ?_)
          · have c11 : (decide ((nI p1_15 : Int32) < 0) && decide (zg_c (zm_tx tb TP TX) ln p1_15 = 38)) = false := zk_b0.mp c11
            have G : zk_G D aA [(b 100, .inr (8, [.ref (b 0), .ref (b 1), .ref (b 2), .ref (b 3), .int (m 4), .int (m 5), .int (m 6), .int (m 7), .ref (b 8), .int (m 9), .ref (b 10), .int (m 11), .int (zm_bs tb), .int (nI p1_15), .int (nI ln), .int (nI p1_15), .int oq1_15, .ref (b 17), .ref (b 18), .ref (b 19), .ref (b 20), .ref (b 21), .ref (b 22), .ref (b 23), .ref (b 24), .int (m 25), .int (m 26), .int (m 27), .int (m 28), .ref (b 29), .ref (b 30), .int (m 31), .int (m 32), .int (m 33), .int (m 34), .int (m 35), .ref (b 36), .ref (b 37), .int (m 38), .ref (b 39), .ref (b 40), .int (m 41), .int (m 42), .int (m 43), .ref (b 44), .ref (b 45), .ref (b 46), .ref (b 47)])), (b 8, .inl (g 0, 120, .inl (fun i => nI (TP i)))), (b 10, .inl (g 0, 120, .inl (fun i => nI (TX i)))), (b 17, .inl (g 0, 6, .inl NM))] sS H locs := (by rw [if_neg (by rw [zm_fl (show p1_15 < 2 ^ 31 by omega)]; simp)] at G; exact G)
            refine lv_iload_n Z.1 Z.2.1 dX8_both_36 rfl (lv_at hl 0 rfl) ?_
            exact zk_reti Z hR_ hlk hK hQ G (p1_15, nI p1_15, oq1_15) (by rw [← hs]; simp only [zg_lp]; rw [if_pos hlv, hz_15]; exact ⟨rfl, rfl⟩) rfl dX8_both_37
          exfalso
          have c11 : (decide ((nI p1_15 : Int32) < 0) && decide (zg_c (zm_tx tb TP TX) ln p1_15 = 38)) = true := zk_b1.mp c11
          have h9 := c11; rw [zm_fl (show p1_15 < 2 ^ 31 by omega)] at h9; exact absurd h9 (by simp)
        · obtain ⟨h1_15, h2_15, h3_15, h4_15⟩ := zm_pr w_15 hz_15
          obtain rfl : p1_15 = a9 := h1_15
          obtain rfl : ft1_15 = -1 := h2_15
          obtain rfl : oq1_15 = nI (op) := h3_15
          obtain rfl : s9 = r_15 :: (v :: ST) := h4_15
          have hb_15 := zb_15
          rw [hz_15] at hb_15
          have hp_15 : p1_15 ≤ ln := hb_15.2
          have hq_15 : p2 + 1 ≤ p1_15 := hb_15.1
          refine lv_istore_n (lv' := [(2, .int r_15), (0, .ref (b 100)), (1, .int v)]) Z.1 Z.2.1 dX8_both_18 rfl hl (by decide) rfl (fun ls hl => ?_)
          refine lv_iload_n Z.1 Z.2.1 dX8_both_19 rfl (lv_at hl 2 rfl) ?_
          refine lv_if_eq (tgt := 31) Z.1 Z.2.1 dX8_both_20 (by decide) (fun c20 => ?_) (fun c20 => ?_)
          · have c20 : v = 0 := c20
            refine lv_iconst (v := nI 0) Z.1 Z.2.1 dX8_both_31 (by decide +kernel) ?_
            refine lv_istore_n (lv' := [(1, .int (nI 0)), (2, .int r_15), (0, .ref (b 100))]) Z.1 Z.2.1 dX8_both_32 rfl hl (by decide) rfl (fun ls hl => ?_)
            refine lv_goto (tgt := 5) Z.1 Z.2.1 dX8_both_33 (by decide) ?_
            exact ih5 (nI 0) p1_15 f9 (by omega) (by omega) (by exact hp_15) (by simp only [zg_lp] at hs; rw [if_pos hlv, hz_15] at hs; try simp only [] at hs; rw [htk] at hs; exact (congrArg (fun z => zg_lp (zm_tx tb TP TX) ln (zm_em NM) (zg (zm_tx tb TP TX) ln (zm_em NM) d 2 op) 1 f9 p1_15 z) (show (nI 0) :: ST = zm_em NM 38 0 (r_15 :: v :: ST) from congrArg (· :: ST) (by simp [zl_op, c20]))).trans hs) _ _ _ G (lv_sub hl [2, 0] rfl)
          have c20 : ¬ v = 0 := c20
          refine lv_iload_n Z.1 Z.2.1 dX8_both_23 rfl (lv_at hl 0 rfl) ?_
          refine lv_if_eq (tgt := 31) Z.1 Z.2.1 dX8_both_24 (by decide) (fun c24 => ?_) (fun c24 => ?_)
          · have c24 : r_15 = 0 := c24
            refine lv_iconst (v := nI 0) Z.1 Z.2.1 dX8_both_31 (by decide +kernel) ?_
            refine lv_istore_n (lv' := [(1, .int (nI 0)), (2, .int r_15), (0, .ref (b 100))]) Z.1 Z.2.1 dX8_both_32 rfl hl (by decide) rfl (fun ls hl => ?_)
            refine lv_goto (tgt := 5) Z.1 Z.2.1 dX8_both_33 (by decide) ?_
            exact ih5 (nI 0) p1_15 f9 (by omega) (by omega) (by exact hp_15) (by simp only [zg_lp] at hs; rw [if_pos hlv, hz_15] at hs; try simp only [] at hs; rw [htk] at hs; exact (congrArg (fun z => zg_lp (zm_tx tb TP TX) ln (zm_em NM) (zg (zm_tx tb TP TX) ln (zm_em NM) d 2 op) 1 f9 p1_15 z) (show (nI 0) :: ST = zm_em NM 38 0 (r_15 :: v :: ST) from congrArg (· :: ST) (by simp [zl_op, c20, c24]))).trans hs) _ _ _ G (lv_sub hl [2, 0] rfl)
          have c24 : ¬ r_15 = 0 := c24
          refine lv_iconst (v := nI 1) Z.1 Z.2.1 dX8_both_27 (by decide +kernel) ?_
          refine lv_goto (tgt := 32) Z.1 Z.2.1 dX8_both_28 (by decide) ?_
          refine lv_istore_n (lv' := [(1, .int (nI 1)), (2, .int r_15), (0, .ref (b 100))]) Z.1 Z.2.1 dX8_both_32 rfl hl (by decide) rfl (fun ls hl => ?_)
          refine lv_goto (tgt := 5) Z.1 Z.2.1 dX8_both_33 (by decide) ?_
          exact ih5 (nI 1) p1_15 f9 (by omega) (by omega) (by exact hp_15) (by simp only [zg_lp] at hs; rw [if_pos hlv, hz_15] at hs; try simp only [] at hs; rw [htk] at hs; exact (congrArg (fun z => zg_lp (zm_tx tb TP TX) ln (zm_em NM) (zg (zm_tx tb TP TX) ln (zm_em NM) d 2 op) 1 f9 p1_15 z) (show (nI 1) :: ST = zm_em NM 38 0 (r_15 :: v :: ST) from congrArg (· :: ST) (by simp [zl_op, c20, c24]))).trans hs) _ _ _ G (lv_sub hl [2, 0] rfl)
    exact L5 _ r_1 p1_1 120 (Nat.lt_succ_self _) (by omega) (by exact hp_1) (by exact hV) _ _ _ G (lv_sub hl [1, 0] rfl)

theorem gmX8_sums_X8_product : GoodIn wmX8_sums (wsV RX8 192 RX8 yX8_product wmX8_product) := goodIn_app (wa8_w (List.forall_mem_cons.mpr ⟨wa8_141, List.forall_mem_cons.mpr ⟨wa8_142, List.forall_mem_cons.mpr ⟨wa8_143, List.forall_mem_cons.mpr ⟨wa8_43, fun _ h => absurd h List.not_mem_nil⟩⟩⟩⟩)) (wa8_sub wa8_139)
theorem gmX8_sums_X8_byteAt : GoodIn wmX8_sums (wsV RX8 176 RX8 yX8_byteAt wmX8_byteAt) := goodIn_app (wa8_w (List.forall_mem_cons.mpr ⟨wa8_107, List.forall_mem_cons.mpr ⟨wa8_108, List.forall_mem_cons.mpr ⟨wa8_109, List.forall_mem_cons.mpr ⟨wa8_43, fun _ h => absurd h List.not_mem_nil⟩⟩⟩⟩)) (wa8_sub wa8_100)
set_option maxRecDepth 100000 in
set_option maxHeartbeats 2000000 in
theorem ct_X8_sums_s (l : Launch) (D : va_G) (g : Nat → ClassId) (τ : Nat → Nat) (d : Nat) (ih : zm_L0 l D g τ d ∧ zm_L1 l D g τ d ∧ zm_L2 l D g τ d ∧ zm_L3 l D g τ d ∧ zm_L4 l D g τ d ∧ zm_L5 l D g τ d) : zm_L3 l D g τ (d + 1) := by
  intro b m ln p op tb TP TX NM ST hln hp ht hop hd
  refine zk_of (av := [.ref (b 100)]) (W0 := [(b 100, .inr (8, [.ref (b 0), .ref (b 1), .ref (b 2), .ref (b 3), .int (m 4), .int (m 5), .int (m 6), .int (m 7), .ref (b 8), .int (m 9), .ref (b 10), .int (m 11), .int (zm_bs tb), .int (nI p), .int (nI ln), .int (-1), .int (nI op), .ref (b 17), .ref (b 18), .ref (b 19), .ref (b 20), .ref (b 21), .ref (b 22), .ref (b 23), .ref (b 24), .int (m 25), .int (m 26), .int (m 27), .int (m 28), .ref (b 29), .ref (b 30), .int (m 31), .int (m 32), .int (m 33), .int (m 34), .int (m 35), .ref (b 36), .ref (b 37), .int (m 38), .ref (b 39), .ref (b 40), .int (m 41), .int (m 42), .int (m 43), .ref (b 44), .ref (b 45), .ref (b 46), .ref (b 47)])), (b 8, .inl (g 0, 120, .inl (fun i => nI (TP i)))), (b 10, .inl (g 0, 120, .inl (fun i => nI (TX i)))), (b 17, .inl (g 0, 6, .inl NM))]) (y := yX8_sums) (wd := wmX8_sums) (Qc := fun A => va_Qi (fun (r : Int32) (uu : Nat × Int32 × Int32) => zm_post (zg (zm_tx tb TP TX) ln (zm_em NM) (d + 1) 3 op p ST) r uu.1 uu.2.1 op uu.2.2 ST) (zk_B D g A (fun (uu : Nat × Int32 × Int32) => [(b 100, .inr (8, [.ref (b 0), .ref (b 1), .ref (b 2), .ref (b 3), .int (m 4), .int (m 5), .int (m 6), .int (m 7), .ref (b 8), .int (m 9), .ref (b 10), .int (m 11), .int (zm_bs tb), .int (nI uu.1), .int (nI ln), .int uu.2.1, .int uu.2.2, .ref (b 17), .ref (b 18), .ref (b 19), .ref (b 20), .ref (b 21), .ref (b 22), .ref (b 23), .ref (b 24), .int (m 25), .int (m 26), .int (m 27), .int (m 28), .ref (b 29), .ref (b 30), .int (m 31), .int (m 32), .int (m 33), .int (m 34), .int (m 35), .ref (b 36), .ref (b 37), .int (m 38), .ref (b 39), .ref (b 40), .int (m 41), .int (m 42), .int (m 43), .ref (b 44), .ref (b 45), .ref (b 46), .ref (b 47)])), (b 8, .inl (g 0, 120, .inl (fun i => nI (TP i)))), (b 10, .inl (g 0, 120, .inl (fun i => nI (TX i)))), (b 17, .inl (g 0, 6, .inl NM))])) A) (cc := cX8_sums) (maxL := 4) (ret := (some .int)) (own := RX8) (by decide) rfl rfl (Nat.le_of_ble_eq_true rfl) ?_
  intro pP eE sS mM args below meth cC aA ls qQ Z hR_ hlk hnm hK hT hA hQ G hl
  have hinX8 : ∀ w ∈ u_ws RX8 TX8 48, w ∈ wmX8_sums := wa8_in
  refine lv_aload_n Z.1 Z.2.1 dX8_sums_0 rfl (lv_at hl 0 rfl) ?_
  refine zk_ci (WF := fun uu => [(b 100, .inr (8, [.ref (b 0), .ref (b 1), .ref (b 2), .ref (b 3), .int (m 4), .int (m 5), .int (m 6), .int (m 7), .ref (b 8), .int (m 9), .ref (b 10), .int (m 11), .int (zm_bs tb), .int (nI uu.1), .int (nI ln), .int uu.2.1, .int uu.2.2, .ref (b 17), .ref (b 18), .ref (b 19), .ref (b 20), .ref (b 21), .ref (b 22), .ref (b 23), .ref (b 24), .int (m 25), .int (m 26), .int (m 27), .int (m 28), .ref (b 29), .ref (b 30), .int (m 31), .int (m 32), .int (m 33), .int (m 34), .int (m 35), .ref (b 36), .ref (b 37), .int (m 38), .ref (b 39), .ref (b 40), .int (m 41), .int (m 42), .int (m 43), .ref (b 44), .ref (b 45), .ref (b 46), .ref (b 47)])), (b 8, .inl (g 0, 120, .inl (fun i => nI (TP i)))), (b 10, .inl (g 0, 120, .inl (fun i => nI (TX i)))), (b 17, .inl (g 0, 6, .inl NM))]) (wr := []) ⟨rfl, rfl⟩ (zk_rv (As := []) (rest := []) (q0 := 0) (ci := 8) Z ((ih.2.2.2.2.1 b m ln p op tb TP TX NM ST (by exact hln) (by exact hp) (by exact ht) (by omega) (by omega)) sS.heap.size) hK hT hA G [0, 1, 2, 3] rfl (by decide) rfl rfl gmX8_sums_X8_product rfl dvX8_product ⟨by first | decide | (simp only [rm_X8_either, rm_X8_both, rm_X8_compared, rm_X8_sums, rm_X8_product, rm_X8_one]; omega), by first | decide | (simp only [rm_X8_either, rm_X8_both, rm_X8_compared, rm_X8_sums, rm_X8_product, rm_X8_one]; omega)⟩ rfl hl.1 rfl (Nat.le_of_ble_eq_true rfl) dX8_sums_1 ⟨Nat.zero_le _, Nat.zero_le _⟩) hA G [0, 1, 2, 3] [] [0, 1, 2, 3] rfl rfl (by decide) (by decide) (by decide) (fun _ => rfl) (fun r_1 uu H locs w_1 G => ?_)
  obtain ⟨p1_1, ft1_1, oq1_1⟩ := uu
  have G : zk_G D aA [(b 100, .inr (8, [.ref (b 0), .ref (b 1), .ref (b 2), .ref (b 3), .int (m 4), .int (m 5), .int (m 6), .int (m 7), .ref (b 8), .int (m 9), .ref (b 10), .int (m 11), .int (zm_bs tb), .int (nI p1_1), .int (nI ln), .int ft1_1, .int oq1_1, .ref (b 17), .ref (b 18), .ref (b 19), .ref (b 20), .ref (b 21), .ref (b 22), .ref (b 23), .ref (b 24), .int (m 25), .int (m 26), .int (m 27), .int (m 28), .ref (b 29), .ref (b 30), .int (m 31), .int (m 32), .int (m 33), .int (m 34), .int (m 35), .ref (b 36), .ref (b 37), .int (m 38), .ref (b 39), .ref (b 40), .int (m 41), .int (m 42), .int (m 43), .ref (b 44), .ref (b 45), .ref (b 46), .ref (b 47)])), (b 8, .inl (g 0, 120, .inl (fun i => nI (TP i)))), (b 10, .inl (g 0, 120, .inl (fun i => nI (TX i)))), (b 17, .inl (g 0, 6, .inl NM))] sS H locs := G
  have zb_1 := zg_le (em := zm_em NM) (ln := ln) ht d 4 (op) (p) (ST) (by omega) (by omega) (by omega) (by omega)
  rcases hz_1 : zg (zm_tx tb TP TX) ln (zm_em NM) d 4 (op) (p) (ST) with e | ⟨a9, s9⟩
  · obtain ⟨h1_1, h2_1⟩ := zm_pl w_1 hz_1
    obtain rfl : p1_1 = e := h1_1
    obtain rfl : ft1_1 = nI p1_1 := h2_1
    have hb_1 := zb_1
    rw [hz_1] at hb_1
    have hp_1 : p1_1 ≤ ln := hb_1.2
    refine lv_istore_n (lv' := [(1, .int r_1), (0, .ref (b 100))]) Z.1 Z.2.1 dX8_sums_4 rfl hl (by decide) rfl (fun ls hl => ?_)
    refine lv_aload_n Z.1 Z.2.1 dX8_sums_5 rfl (lv_at hl 1 rfl) ?_
    refine zk_get (C := RX8) (T := TX8) (N := 48) (ci := 8) Z hK G hinX8 0 rfl rfl 15 (by decide) (List.mem_cons_of_mem _ wa8_105) rfl (v := .int (nI p1_1)) rfl dX8_sums_6 ?_
    refine lv_if_ge (tgt := 77) Z.1 Z.2.1 dX8_sums_9 (by decide) (fun c9 => ?_) (fun c9 => ?_)
    · have c9 : 0 ≤ p1_1 := zk_le (by omega) (by omega) c9
      refine lv_iload_n Z.1 Z.2.1 dX8_sums_77 rfl (lv_at hl 0 rfl) ?_
      exact zk_reti Z hR_ hlk hK hQ G (p1_1, nI p1_1, oq1_1) (by simp only [zg]; rw [if_pos (by decide), hz_1]; exact ⟨rfl, rfl⟩) rfl dX8_sums_78
    exfalso
    have c9 : p1_1 < 0 := zk_nle (by omega) (by omega) c9
    omega
  · obtain ⟨h1_1, h2_1, h3_1, h4_1⟩ := zm_pr w_1 hz_1
    obtain rfl : p1_1 = a9 := h1_1
    obtain rfl : ft1_1 = -1 := h2_1
    obtain rfl : oq1_1 = nI (op) := h3_1
    obtain rfl : s9 = r_1 :: ST := h4_1
    have hb_1 := zb_1
    rw [hz_1] at hb_1
    have hp_1 : p1_1 ≤ ln := hb_1.2
    have hq_1 : p ≤ p1_1 := hb_1.1
    have hV : zg_lp (zm_tx tb TP TX) ln (zm_em NM) (zg (zm_tx tb TP TX) ln (zm_em NM) d 4 op) 3 120 p1_1 (r_1 :: ST) = zg (zm_tx tb TP TX) ln (zm_em NM) (d + 1) 3 op p ST := by simp only [zg]; rw [if_pos (by decide), hz_1]; rfl
    refine lv_istore_n (lv' := [(1, .int r_1), (0, .ref (b 100))]) Z.1 Z.2.1 dX8_sums_4 rfl hl (by decide) rfl (fun ls hl => ?_)
    have L5 : ∀ (nN : Nat) (v : Int32) (p2 : Nat) (f : Nat), f < nN → (120 ≤ p2 + f) → (p2 ≤ ln) → (zg_lp (zm_tx tb TP TX) ln (zm_em NM) (zg (zm_tx tb TP TX) ln (zm_em NM) d 4 op) 3 f p2 (v :: ST) = zg (zm_tx tb TP TX) ln (zm_em NM) (d + 1) 3 op p ST) → ∀ (H : Heap) (locs : List Loc) (ls : Array Slot), zk_G D aA [(b 100, .inr (8, [.ref (b 0), .ref (b 1), .ref (b 2), .ref (b 3), .int (m 4), .int (m 5), .int (m 6), .int (m 7), .ref (b 8), .int (m 9), .ref (b 10), .int (m 11), .int (zm_bs tb), .int (nI p2), .int (nI ln), .int (-1), .int (nI op), .ref (b 17), .ref (b 18), .ref (b 19), .ref (b 20), .ref (b 21), .ref (b 22), .ref (b 23), .ref (b 24), .int (m 25), .int (m 26), .int (m 27), .int (m 28), .ref (b 29), .ref (b 30), .int (m 31), .int (m 32), .int (m 33), .int (m 34), .int (m 35), .ref (b 36), .ref (b 37), .int (m 38), .ref (b 39), .ref (b 40), .int (m 41), .int (m 42), .int (m 43), .ref (b 44), .ref (b 45), .ref (b 46), .ref (b 47)])), (b 8, .inl (g 0, 120, .inl (fun i => nI (TP i)))), (b 10, .inl (g 0, 120, .inl (fun i => nI (TX i)))), (b 17, .inl (g 0, 6, .inl NM))] sS H locs → lv_has ls 4 [(0, .ref (b 100)), (1, .int v)] → W pP l eE (rm_X8_sums (d + 1)) sS mM args below meth cC H locs 0 0 qQ (F0 mM 5 ls []) := by
      intro nN
      induction nN with
      | zero => intros; omega
      | succ nN ih5 =>
        intro v p2 f hμ hpf hp2 hs H locs ls G hl
        have hcb := zg_c_256 (ln := ln) ht p2
        refine lv_aload_n Z.1 Z.2.1 dX8_sums_5 rfl (lv_at hl 0 rfl) ?_
        refine zk_get (C := RX8) (T := TX8) (N := 48) (ci := 8) Z hK G hinX8 0 rfl rfl 15 (by decide) (List.mem_cons_of_mem _ wa8_105) rfl (v := .int (-1)) rfl dX8_sums_6 ?_
        refine lv_if_ge (tgt := 77) Z.1 Z.2.1 dX8_sums_9 (by decide) (fun c9 => ?_) (fun c9 => ?_)
        · exfalso
          have c9 : 0 ≤ ((-1) : Int32) := c9
          exact absurd c9 (by decide)
        have c9 : ¬ 0 ≤ ((-1) : Int32) := c9
        refine lv_aload_n Z.1 Z.2.1 dX8_sums_12 rfl (lv_at hl 0 rfl) ?_
        refine zk_ci (WF := fun (_ : Unit) => [(b 100, .inr (8, [.ref (b 0), .ref (b 1), .ref (b 2), .ref (b 3), .int (m 4), .int (m 5), .int (m 6), .int (m 7), .ref (b 8), .int (m 9), .ref (b 10), .int (m 11), .int (zm_bs tb), .int (nI p2), .int (nI ln), .int (-1), .int (nI op), .ref (b 17), .ref (b 18), .ref (b 19), .ref (b 20), .ref (b 21), .ref (b 22), .ref (b 23), .ref (b 24), .int (m 25), .int (m 26), .int (m 27), .int (m 28), .ref (b 29), .ref (b 30), .int (m 31), .int (m 32), .int (m 33), .int (m 34), .int (m 35), .ref (b 36), .ref (b 37), .int (m 38), .ref (b 39), .ref (b 40), .int (m 41), .int (m 42), .int (m 43), .ref (b 44), .ref (b 45), .ref (b 46), .ref (b 47)])), (b 8, .inl (g 0, 120, .inl (fun i => nI (TP i)))), (b 10, .inl (g 0, 120, .inl (fun i => nI (TX i)))), (b 17, .inl (g 0, 6, .inl NM))]) (wr := [(b 17, .inl (g 0, 6, .inl NM))]) ⟨rfl, rfl⟩ (zk_rv (As := []) (rest := []) (q0 := 0) (ci := 8) Z ((ct_X8_byteAt l D g τ b m ln p2 (-1) tb TP TX (nI op) (by exact hln) (by omega)) H.size) hK hT hA G [0, 1, 2] rfl (by decide) rfl rfl gmX8_sums_X8_byteAt rfl dvX8_byteAt ⟨by first | decide | (simp only [rm_X8_either, rm_X8_both, rm_X8_compared, rm_X8_sums, rm_X8_product, rm_X8_one]; omega), by first | decide | (simp only [rm_X8_either, rm_X8_both, rm_X8_compared, rm_X8_sums, rm_X8_product, rm_X8_one]; omega)⟩ rfl hl.1 rfl (Nat.le_of_ble_eq_true rfl) dX8_sums_13 ⟨Nat.zero_le _, Nat.zero_le _⟩) hA G [0, 1, 2] [3] [1, 2, 3, 0] rfl rfl (by decide) (by decide) (by decide) (fun _ => rfl) (fun r_13 _ H locs w_13 G => ?_)
        obtain rfl : r_13 = nI (zg_c (zm_tx tb TP TX) ln p2) := w_13
        refine lv_bipush (v := nI 43) Z.1 Z.2.1 dX8_sums_16 (by decide +kernel) ?_
        refine lv_icmp_eq (tgt := 30) Z.1 Z.2.1 dX8_sums_18 (by decide) (fun c18 => ?_) (fun c18 => ?_)
        · have c18 : zg_c (zm_tx tb TP TX) ln p2 = 43 := zk_eq (by omega) (by omega) c18
          have htk : zg_c (zm_tx tb TP TX) ln p2 = 43 := c18
          have hlv : zg_lev (zg_c (zm_tx tb TP TX) ln p2) = 3 := by rw [htk]; rfl
          have hpl : p2 < ln := zg_c_lt (tp := (zm_tx tb TP TX)) (by rw [htk]; decide)
          obtain ⟨f9, rfl⟩ : ∃ f9, f = f9 + 1 := ⟨f - 1, by omega⟩
          refine lv_aload_n Z.1 Z.2.1 dX8_sums_30 rfl (lv_at hl 0 rfl) ?_
          refine zk_ci (WF := fun (_ : Unit) => [(b 100, .inr (8, [.ref (b 0), .ref (b 1), .ref (b 2), .ref (b 3), .int (m 4), .int (m 5), .int (m 6), .int (m 7), .ref (b 8), .int (m 9), .ref (b 10), .int (m 11), .int (zm_bs tb), .int (nI p2), .int (nI ln), .int (-1), .int (nI op), .ref (b 17), .ref (b 18), .ref (b 19), .ref (b 20), .ref (b 21), .ref (b 22), .ref (b 23), .ref (b 24), .int (m 25), .int (m 26), .int (m 27), .int (m 28), .ref (b 29), .ref (b 30), .int (m 31), .int (m 32), .int (m 33), .int (m 34), .int (m 35), .ref (b 36), .ref (b 37), .int (m 38), .ref (b 39), .ref (b 40), .int (m 41), .int (m 42), .int (m 43), .ref (b 44), .ref (b 45), .ref (b 46), .ref (b 47)])), (b 8, .inl (g 0, 120, .inl (fun i => nI (TP i)))), (b 10, .inl (g 0, 120, .inl (fun i => nI (TX i)))), (b 17, .inl (g 0, 6, .inl NM))]) (wr := [(b 17, .inl (g 0, 6, .inl NM))]) ⟨rfl, rfl⟩ (zk_rv (As := []) (rest := []) (q0 := 0) (ci := 8) Z ((ct_X8_byteAt l D g τ b m ln p2 (-1) tb TP TX (nI op) (by exact hln) (by omega)) H.size) hK hT hA G [0, 1, 2] rfl (by decide) rfl rfl gmX8_sums_X8_byteAt rfl dvX8_byteAt ⟨by first | decide | (simp only [rm_X8_either, rm_X8_both, rm_X8_compared, rm_X8_sums, rm_X8_product, rm_X8_one]; omega), by first | decide | (simp only [rm_X8_either, rm_X8_both, rm_X8_compared, rm_X8_sums, rm_X8_product, rm_X8_one]; omega)⟩ rfl hl.1 rfl (Nat.le_of_ble_eq_true rfl) dX8_sums_31 ⟨Nat.zero_le _, Nat.zero_le _⟩) hA G [0, 1, 2] [3] [1, 2, 3, 0] rfl rfl (by decide) (by decide) (by decide) (fun _ => rfl) (fun r_31 _ H locs w_31 G => ?_)
          obtain rfl : r_31 = nI (zg_c (zm_tx tb TP TX) ln p2) := w_31
          refine lv_bipush (v := nI 43) Z.1 Z.2.1 dX8_sums_34 (by decide +kernel) ?_
          refine lv_icmp_ne (tgt := 43) Z.1 Z.2.1 dX8_sums_36 (by decide) (fun c36 => ?_) (fun c36 => ?_)
          · exfalso
            have c36 : zg_c (zm_tx tb TP TX) ln p2 ≠ 43 := zk_neq (by omega) (by omega) c36
            exact c36 htk
          have c36 : zg_c (zm_tx tb TP TX) ln p2 = 43 := zk_eq (by omega) (by omega) c36
          refine lv_iconst (v := nI 1) Z.1 Z.2.1 dX8_sums_39 (by decide +kernel) ?_
          refine lv_goto (tgt := 44) Z.1 Z.2.1 dX8_sums_40 (by decide) ?_
          refine lv_istore_n (lv' := [(2, .int (nI 1)), (0, .ref (b 100)), (1, .int v)]) Z.1 Z.2.1 dX8_sums_44 rfl hl (by decide) rfl (fun ls hl => ?_)
          refine lv_aload_n Z.1 Z.2.1 dX8_sums_45 rfl (lv_at hl 1 rfl) ?_
          refine lv_dup Z.1 Z.2.1 dX8_sums_46 rfl ?_
          refine zk_get (C := RX8) (T := TX8) (N := 48) (ci := 8) Z hK G hinX8 0 rfl rfl 13 (by decide) (List.mem_cons_of_mem _ wa8_101) rfl (v := .int (nI p2)) rfl dX8_sums_47 ?_
          refine lv_iconst (v := nI 1) Z.1 Z.2.1 dX8_sums_50 (by decide +kernel) ?_
          refine zk_iadd Z dX8_sums_51 (z := nI (p2 + 1)) (nI_add _ _) ?_
          refine zk_put tyX8 tyX8_ok nmX8 (C := RX8) (T := TX8) (N := 48) (ci := 8) Z hK G hinX8 0 rfl rfl 13 (by decide) (List.mem_cons_of_mem _ wa8_101) rfl rfl rfl rfl (Nat.le_of_ble_eq_true rfl) (ws' := [(b 100, .inr (8, [.ref (b 0), .ref (b 1), .ref (b 2), .ref (b 3), .int (m 4), .int (m 5), .int (m 6), .int (m 7), .ref (b 8), .int (m 9), .ref (b 10), .int (m 11), .int (zm_bs tb), .int (nI (p2 + 1)), .int (nI ln), .int (-1), .int (nI op), .ref (b 17), .ref (b 18), .ref (b 19), .ref (b 20), .ref (b 21), .ref (b 22), .ref (b 23), .ref (b 24), .int (m 25), .int (m 26), .int (m 27), .int (m 28), .ref (b 29), .ref (b 30), .int (m 31), .int (m 32), .int (m 33), .int (m 34), .int (m 35), .ref (b 36), .ref (b 37), .int (m 38), .ref (b 39), .ref (b 40), .int (m 41), .int (m 42), .int (m 43), .ref (b 44), .ref (b 45), .ref (b 46), .ref (b 47)])), (b 8, .inl (g 0, 120, .inl (fun i => nI (TP i)))), (b 10, .inl (g 0, 120, .inl (fun i => nI (TX i)))), (b 17, .inl (g 0, 6, .inl NM))]) rfl dX8_sums_52 (fun H locs G => ?_)
          refine lv_aload_n Z.1 Z.2.1 dX8_sums_55 rfl (lv_at hl 1 rfl) ?_
          refine zk_ci (WF := fun uu => [(b 100, .inr (8, [.ref (b 0), .ref (b 1), .ref (b 2), .ref (b 3), .int (m 4), .int (m 5), .int (m 6), .int (m 7), .ref (b 8), .int (m 9), .ref (b 10), .int (m 11), .int (zm_bs tb), .int (nI uu.1), .int (nI ln), .int uu.2.1, .int uu.2.2, .ref (b 17), .ref (b 18), .ref (b 19), .ref (b 20), .ref (b 21), .ref (b 22), .ref (b 23), .ref (b 24), .int (m 25), .int (m 26), .int (m 27), .int (m 28), .ref (b 29), .ref (b 30), .int (m 31), .int (m 32), .int (m 33), .int (m 34), .int (m 35), .ref (b 36), .ref (b 37), .int (m 38), .ref (b 39), .ref (b 40), .int (m 41), .int (m 42), .int (m 43), .ref (b 44), .ref (b 45), .ref (b 46), .ref (b 47)])), (b 8, .inl (g 0, 120, .inl (fun i => nI (TP i)))), (b 10, .inl (g 0, 120, .inl (fun i => nI (TX i)))), (b 17, .inl (g 0, 6, .inl NM))]) (wr := []) ⟨rfl, rfl⟩ (zk_rv (As := []) (rest := []) (q0 := 0) (ci := 8) Z ((ih.2.2.2.2.1 b m ln (p2 + 1) op tb TP TX NM (v :: ST) (by exact hln) (by omega) (by exact ht) (by omega) (by omega)) H.size) hK hT hA G [0, 1, 2, 3] rfl (by decide) rfl rfl gmX8_sums_X8_product rfl dvX8_product ⟨by first | decide | (simp only [rm_X8_either, rm_X8_both, rm_X8_compared, rm_X8_sums, rm_X8_product, rm_X8_one]; omega), by first | decide | (simp only [rm_X8_either, rm_X8_both, rm_X8_compared, rm_X8_sums, rm_X8_product, rm_X8_one]; omega)⟩ rfl hl.1 rfl (Nat.le_of_ble_eq_true rfl) dX8_sums_56 ⟨Nat.zero_le _, Nat.zero_le _⟩) hA G [0, 1, 2, 3] [] [0, 1, 2, 3] rfl rfl (by decide) (by decide) (by decide) (fun _ => rfl) (fun r_56 uu H locs w_56 G => ?_)
          obtain ⟨p1_56, ft1_56, oq1_56⟩ := uu
          have G : zk_G D aA [(b 100, .inr (8, [.ref (b 0), .ref (b 1), .ref (b 2), .ref (b 3), .int (m 4), .int (m 5), .int (m 6), .int (m 7), .ref (b 8), .int (m 9), .ref (b 10), .int (m 11), .int (zm_bs tb), .int (nI p1_56), .int (nI ln), .int ft1_56, .int oq1_56, .ref (b 17), .ref (b 18), .ref (b 19), .ref (b 20), .ref (b 21), .ref (b 22), .ref (b 23), .ref (b 24), .int (m 25), .int (m 26), .int (m 27), .int (m 28), .ref (b 29), .ref (b 30), .int (m 31), .int (m 32), .int (m 33), .int (m 34), .int (m 35), .ref (b 36), .ref (b 37), .int (m 38), .ref (b 39), .ref (b 40), .int (m 41), .int (m 42), .int (m 43), .ref (b 44), .ref (b 45), .ref (b 46), .ref (b 47)])), (b 8, .inl (g 0, 120, .inl (fun i => nI (TP i)))), (b 10, .inl (g 0, 120, .inl (fun i => nI (TX i)))), (b 17, .inl (g 0, 6, .inl NM))] sS H locs := G
          have zb_56 := zg_le (em := zm_em NM) (ln := ln) ht d 4 (op) (p2 + 1) (v :: ST) (by omega) (by omega) (by omega) (by omega)
          rcases hz_56 : zg (zm_tx tb TP TX) ln (zm_em NM) d 4 (op) (p2 + 1) (v :: ST) with e | ⟨a9, s9⟩
          · obtain ⟨h1_56, h2_56⟩ := zm_pl w_56 hz_56
            obtain rfl : p1_56 = e := h1_56
            obtain rfl : ft1_56 = nI p1_56 := h2_56
            have hb_56 := zb_56
            rw [hz_56] at hb_56
            have hp_56 : p1_56 ≤ ln := hb_56.2
            refine lv_istore_n (lv' := [(3, .int r_56), (2, .int (nI 1)), (0, .ref (b 100)), (1, .int v)]) Z.1 Z.2.1 dX8_sums_59 rfl hl (by decide) rfl (fun ls hl => ?_)
            refine lv_iload_n Z.1 Z.2.1 dX8_sums_60 rfl (lv_at hl 1 rfl) ?_
            refine lv_if_eq (tgt := 70) Z.1 Z.2.1 dX8_sums_61 (by decide) (fun c61 => ?_) (fun c61 => ?_)
            · exfalso
              have c61 : 1 = 0 := zk_eq (by omega) (by omega) c61
              omega
            have c61 : 1 ≠ 0 := zk_neq (by omega) (by omega) c61
            refine lv_iload_n Z.1 Z.2.1 dX8_sums_64 rfl (lv_at hl 3 rfl) ?_
            refine lv_iload_n Z.1 Z.2.1 dX8_sums_65 rfl (lv_at hl 0 rfl) ?_
            refine zk_iadd Z dX8_sums_66 (z := v + r_56) rfl ?_
            refine lv_goto (tgt := 73) Z.1 Z.2.1 dX8_sums_67 (by decide) ?_
            refine lv_istore_n (lv' := [(1, .int (v + r_56)), (3, .int r_56), (2, .int (nI 1)), (0, .ref (b 100))]) Z.1 Z.2.1 dX8_sums_73 rfl hl (by decide) rfl (fun ls hl => ?_)
            refine lv_goto (tgt := 5) Z.1 Z.2.1 dX8_sums_74 (by decide) ?_
            refine lv_aload_n Z.1 Z.2.1 dX8_sums_5 rfl (lv_at hl 3 rfl) ?_
            refine zk_get (C := RX8) (T := TX8) (N := 48) (ci := 8) Z hK G hinX8 0 rfl rfl 15 (by decide) (List.mem_cons_of_mem _ wa8_105) rfl (v := .int (nI p1_56)) rfl dX8_sums_6 ?_
            refine lv_if_ge (tgt := 77) Z.1 Z.2.1 dX8_sums_9 (by decide) (fun c9 => ?_) (fun c9 => ?_)
            · have c9 : 0 ≤ p1_56 := zk_le (by omega) (by omega) c9
              refine lv_iload_n Z.1 Z.2.1 dX8_sums_77 rfl (lv_at hl 0 rfl) ?_
              exact zk_reti Z hR_ hlk hK hQ G (p1_56, nI p1_56, oq1_56) (by rw [← hs]; simp only [zg_lp]; rw [if_pos hlv, hz_56]; exact ⟨rfl, rfl⟩) rfl dX8_sums_78
            exfalso
            have c9 : p1_56 < 0 := zk_nle (by omega) (by omega) c9
            omega
          · obtain ⟨h1_56, h2_56, h3_56, h4_56⟩ := zm_pr w_56 hz_56
            obtain rfl : p1_56 = a9 := h1_56
            obtain rfl : ft1_56 = -1 := h2_56
            obtain rfl : oq1_56 = nI (op) := h3_56
            obtain rfl : s9 = r_56 :: (v :: ST) := h4_56
            have hb_56 := zb_56
            rw [hz_56] at hb_56
            have hp_56 : p1_56 ≤ ln := hb_56.2
            have hq_56 : p2 + 1 ≤ p1_56 := hb_56.1
            refine lv_istore_n (lv' := [(3, .int r_56), (2, .int (nI 1)), (0, .ref (b 100)), (1, .int v)]) Z.1 Z.2.1 dX8_sums_59 rfl hl (by decide) rfl (fun ls hl => ?_)
            refine lv_iload_n Z.1 Z.2.1 dX8_sums_60 rfl (lv_at hl 1 rfl) ?_
            refine lv_if_eq (tgt := 70) Z.1 Z.2.1 dX8_sums_61 (by decide) (fun c61 => ?_) (fun c61 => ?_)
            · exfalso
              have c61 : 1 = 0 := zk_eq (by omega) (by omega) c61
              omega
            have c61 : 1 ≠ 0 := zk_neq (by omega) (by omega) c61
            refine lv_iload_n Z.1 Z.2.1 dX8_sums_64 rfl (lv_at hl 3 rfl) ?_
            refine lv_iload_n Z.1 Z.2.1 dX8_sums_65 rfl (lv_at hl 0 rfl) ?_
            refine zk_iadd Z dX8_sums_66 (z := v + r_56) rfl ?_
            refine lv_goto (tgt := 73) Z.1 Z.2.1 dX8_sums_67 (by decide) ?_
            refine lv_istore_n (lv' := [(1, .int (v + r_56)), (3, .int r_56), (2, .int (nI 1)), (0, .ref (b 100))]) Z.1 Z.2.1 dX8_sums_73 rfl hl (by decide) rfl (fun ls hl => ?_)
            refine lv_goto (tgt := 5) Z.1 Z.2.1 dX8_sums_74 (by decide) ?_
            exact ih5 (v + r_56) p1_56 f9 (by omega) (by omega) (by exact hp_56) (by simp only [zg_lp] at hs; rw [if_pos hlv, hz_56] at hs; try simp only [] at hs; rw [htk] at hs; exact (congrArg (fun z => zg_lp (zm_tx tb TP TX) ln (zm_em NM) (zg (zm_tx tb TP TX) ln (zm_em NM) d 4 op) 3 f9 p1_56 z) (show (v + r_56) :: ST = zm_em NM 43 0 (r_56 :: v :: ST) from congrArg (· :: ST) (rfl))).trans hs) _ _ _ G (lv_sub hl [3, 0] rfl)
        have c18 : zg_c (zm_tx tb TP TX) ln p2 ≠ 43 := zk_neq (by omega) (by omega) c18
        refine lv_aload_n Z.1 Z.2.1 dX8_sums_21 rfl (lv_at hl 0 rfl) ?_
        refine zk_ci (WF := fun (_ : Unit) => [(b 100, .inr (8, [.ref (b 0), .ref (b 1), .ref (b 2), .ref (b 3), .int (m 4), .int (m 5), .int (m 6), .int (m 7), .ref (b 8), .int (m 9), .ref (b 10), .int (m 11), .int (zm_bs tb), .int (nI p2), .int (nI ln), .int (-1), .int (nI op), .ref (b 17), .ref (b 18), .ref (b 19), .ref (b 20), .ref (b 21), .ref (b 22), .ref (b 23), .ref (b 24), .int (m 25), .int (m 26), .int (m 27), .int (m 28), .ref (b 29), .ref (b 30), .int (m 31), .int (m 32), .int (m 33), .int (m 34), .int (m 35), .ref (b 36), .ref (b 37), .int (m 38), .ref (b 39), .ref (b 40), .int (m 41), .int (m 42), .int (m 43), .ref (b 44), .ref (b 45), .ref (b 46), .ref (b 47)])), (b 8, .inl (g 0, 120, .inl (fun i => nI (TP i)))), (b 10, .inl (g 0, 120, .inl (fun i => nI (TX i)))), (b 17, .inl (g 0, 6, .inl NM))]) (wr := [(b 17, .inl (g 0, 6, .inl NM))]) ⟨rfl, rfl⟩ (zk_rv (As := []) (rest := []) (q0 := 0) (ci := 8) Z ((ct_X8_byteAt l D g τ b m ln p2 (-1) tb TP TX (nI op) (by exact hln) (by omega)) H.size) hK hT hA G [0, 1, 2] rfl (by decide) rfl rfl gmX8_sums_X8_byteAt rfl dvX8_byteAt ⟨by first | decide | (simp only [rm_X8_either, rm_X8_both, rm_X8_compared, rm_X8_sums, rm_X8_product, rm_X8_one]; omega), by first | decide | (simp only [rm_X8_either, rm_X8_both, rm_X8_compared, rm_X8_sums, rm_X8_product, rm_X8_one]; omega)⟩ rfl hl.1 rfl (Nat.le_of_ble_eq_true rfl) dX8_sums_22 ⟨Nat.zero_le _, Nat.zero_le _⟩) hA G [0, 1, 2] [3] [1, 2, 3, 0] rfl rfl (by decide) (by decide) (by decide) (fun _ => rfl) (fun r_22 _ H locs w_22 G => ?_)
        obtain rfl : r_22 = nI (zg_c (zm_tx tb TP TX) ln p2) := w_22
        refine lv_bipush (v := nI 45) Z.1 Z.2.1 dX8_sums_25 (by decide +kernel) ?_
        refine lv_icmp_ne (tgt := 77) Z.1 Z.2.1 dX8_sums_27 (by decide) (fun c27 => ?_) (fun c27 => ?_)
        · have c27 : zg_c (zm_tx tb TP TX) ln p2 ≠ 45 := zk_neq (by omega) (by omega) c27
          have hst9 : ¬ zg_lev (zg_c (zm_tx tb TP TX) ln p2) = 3 := fun q9 => (zg_lev_3c.mp q9).elim c18 c27
          refine lv_iload_n Z.1 Z.2.1 dX8_sums_77 rfl (lv_at hl 1 rfl) ?_
          exact zk_reti Z hR_ hlk hK hQ G (p2, (-1), nI op) (by rw [← hs, zg_lp_stop hst9]; exact ⟨rfl, rfl, rfl, rfl⟩) rfl dX8_sums_78
        have c27 : zg_c (zm_tx tb TP TX) ln p2 = 45 := zk_eq (by omega) (by omega) c27
        have htk : zg_c (zm_tx tb TP TX) ln p2 = 45 := c27
        have hlv : zg_lev (zg_c (zm_tx tb TP TX) ln p2) = 3 := by rw [htk]; rfl
        have hpl : p2 < ln := zg_c_lt (tp := (zm_tx tb TP TX)) (by rw [htk]; decide)
        obtain ⟨f9, rfl⟩ : ∃ f9, f = f9 + 1 := ⟨f - 1, by omega⟩
        refine lv_aload_n Z.1 Z.2.1 dX8_sums_30 rfl (lv_at hl 0 rfl) ?_
        refine zk_ci (WF := fun (_ : Unit) => [(b 100, .inr (8, [.ref (b 0), .ref (b 1), .ref (b 2), .ref (b 3), .int (m 4), .int (m 5), .int (m 6), .int (m 7), .ref (b 8), .int (m 9), .ref (b 10), .int (m 11), .int (zm_bs tb), .int (nI p2), .int (nI ln), .int (-1), .int (nI op), .ref (b 17), .ref (b 18), .ref (b 19), .ref (b 20), .ref (b 21), .ref (b 22), .ref (b 23), .ref (b 24), .int (m 25), .int (m 26), .int (m 27), .int (m 28), .ref (b 29), .ref (b 30), .int (m 31), .int (m 32), .int (m 33), .int (m 34), .int (m 35), .ref (b 36), .ref (b 37), .int (m 38), .ref (b 39), .ref (b 40), .int (m 41), .int (m 42), .int (m 43), .ref (b 44), .ref (b 45), .ref (b 46), .ref (b 47)])), (b 8, .inl (g 0, 120, .inl (fun i => nI (TP i)))), (b 10, .inl (g 0, 120, .inl (fun i => nI (TX i)))), (b 17, .inl (g 0, 6, .inl NM))]) (wr := [(b 17, .inl (g 0, 6, .inl NM))]) ⟨rfl, rfl⟩ (zk_rv (As := []) (rest := []) (q0 := 0) (ci := 8) Z ((ct_X8_byteAt l D g τ b m ln p2 (-1) tb TP TX (nI op) (by exact hln) (by omega)) H.size) hK hT hA G [0, 1, 2] rfl (by decide) rfl rfl gmX8_sums_X8_byteAt rfl dvX8_byteAt ⟨by first | decide | (simp only [rm_X8_either, rm_X8_both, rm_X8_compared, rm_X8_sums, rm_X8_product, rm_X8_one]; omega), by first | decide | (simp only [rm_X8_either, rm_X8_both, rm_X8_compared, rm_X8_sums, rm_X8_product, rm_X8_one]; omega)⟩ rfl hl.1 rfl (Nat.le_of_ble_eq_true rfl) dX8_sums_31 ⟨Nat.zero_le _, Nat.zero_le _⟩) hA G [0, 1, 2] [3] [1, 2, 3, 0] rfl rfl (by decide) (by decide) (by decide) (fun _ => rfl) (fun r_31 _ H locs w_31 G => ?_)
        obtain rfl : r_31 = nI (zg_c (zm_tx tb TP TX) ln p2) := w_31
        refine lv_bipush (v := nI 43) Z.1 Z.2.1 dX8_sums_34 (by decide +kernel) ?_
        refine lv_icmp_ne (tgt := 43) Z.1 Z.2.1 dX8_sums_36 (by decide) (fun c36 => ?_) (fun c36 => ?_)
        · have c36 : zg_c (zm_tx tb TP TX) ln p2 ≠ 43 := zk_neq (by omega) (by omega) c36
          refine lv_iconst (v := nI 0) Z.1 Z.2.1 dX8_sums_43 (by decide +kernel) ?_
          refine lv_istore_n (lv' := [(2, .int (nI 0)), (0, .ref (b 100)), (1, .int v)]) Z.1 Z.2.1 dX8_sums_44 rfl hl (by decide) rfl (fun ls hl => ?_)
          refine lv_aload_n Z.1 Z.2.1 dX8_sums_45 rfl (lv_at hl 1 rfl) ?_
          refine lv_dup Z.1 Z.2.1 dX8_sums_46 rfl ?_
          refine zk_get (C := RX8) (T := TX8) (N := 48) (ci := 8) Z hK G hinX8 0 rfl rfl 13 (by decide) (List.mem_cons_of_mem _ wa8_101) rfl (v := .int (nI p2)) rfl dX8_sums_47 ?_
          refine lv_iconst (v := nI 1) Z.1 Z.2.1 dX8_sums_50 (by decide +kernel) ?_
          refine zk_iadd Z dX8_sums_51 (z := nI (p2 + 1)) (nI_add _ _) ?_
          refine zk_put tyX8 tyX8_ok nmX8 (C := RX8) (T := TX8) (N := 48) (ci := 8) Z hK G hinX8 0 rfl rfl 13 (by decide) (List.mem_cons_of_mem _ wa8_101) rfl rfl rfl rfl (Nat.le_of_ble_eq_true rfl) (ws' := [(b 100, .inr (8, [.ref (b 0), .ref (b 1), .ref (b 2), .ref (b 3), .int (m 4), .int (m 5), .int (m 6), .int (m 7), .ref (b 8), .int (m 9), .ref (b 10), .int (m 11), .int (zm_bs tb), .int (nI (p2 + 1)), .int (nI ln), .int (-1), .int (nI op), .ref (b 17), .ref (b 18), .ref (b 19), .ref (b 20), .ref (b 21), .ref (b 22), .ref (b 23), .ref (b 24), .int (m 25), .int (m 26), .int (m 27), .int (m 28), .ref (b 29), .ref (b 30), .int (m 31), .int (m 32), .int (m 33), .int (m 34), .int (m 35), .ref (b 36), .ref (b 37), .int (m 38), .ref (b 39), .ref (b 40), .int (m 41), .int (m 42), .int (m 43), .ref (b 44), .ref (b 45), .ref (b 46), .ref (b 47)])), (b 8, .inl (g 0, 120, .inl (fun i => nI (TP i)))), (b 10, .inl (g 0, 120, .inl (fun i => nI (TX i)))), (b 17, .inl (g 0, 6, .inl NM))]) rfl dX8_sums_52 (fun H locs G => ?_)
          refine lv_aload_n Z.1 Z.2.1 dX8_sums_55 rfl (lv_at hl 1 rfl) ?_
          refine zk_ci (WF := fun uu => [(b 100, .inr (8, [.ref (b 0), .ref (b 1), .ref (b 2), .ref (b 3), .int (m 4), .int (m 5), .int (m 6), .int (m 7), .ref (b 8), .int (m 9), .ref (b 10), .int (m 11), .int (zm_bs tb), .int (nI uu.1), .int (nI ln), .int uu.2.1, .int uu.2.2, .ref (b 17), .ref (b 18), .ref (b 19), .ref (b 20), .ref (b 21), .ref (b 22), .ref (b 23), .ref (b 24), .int (m 25), .int (m 26), .int (m 27), .int (m 28), .ref (b 29), .ref (b 30), .int (m 31), .int (m 32), .int (m 33), .int (m 34), .int (m 35), .ref (b 36), .ref (b 37), .int (m 38), .ref (b 39), .ref (b 40), .int (m 41), .int (m 42), .int (m 43), .ref (b 44), .ref (b 45), .ref (b 46), .ref (b 47)])), (b 8, .inl (g 0, 120, .inl (fun i => nI (TP i)))), (b 10, .inl (g 0, 120, .inl (fun i => nI (TX i)))), (b 17, .inl (g 0, 6, .inl NM))]) (wr := []) ⟨rfl, rfl⟩ (zk_rv (As := []) (rest := []) (q0 := 0) (ci := 8) Z ((ih.2.2.2.2.1 b m ln (p2 + 1) op tb TP TX NM (v :: ST) (by exact hln) (by omega) (by exact ht) (by omega) (by omega)) H.size) hK hT hA G [0, 1, 2, 3] rfl (by decide) rfl rfl gmX8_sums_X8_product rfl dvX8_product ⟨by first | decide | (simp only [rm_X8_either, rm_X8_both, rm_X8_compared, rm_X8_sums, rm_X8_product, rm_X8_one]; omega), by first | decide | (simp only [rm_X8_either, rm_X8_both, rm_X8_compared, rm_X8_sums, rm_X8_product, rm_X8_one]; omega)⟩ rfl hl.1 rfl (Nat.le_of_ble_eq_true rfl) dX8_sums_56 ⟨Nat.zero_le _, Nat.zero_le _⟩) hA G [0, 1, 2, 3] [] [0, 1, 2, 3] rfl rfl (by decide) (by decide) (by decide) (fun _ => rfl) (fun r_56 uu H locs w_56 G => ?_)
          obtain ⟨p1_56, ft1_56, oq1_56⟩ := uu
          have G : zk_G D aA [(b 100, .inr (8, [.ref (b 0), .ref (b 1), .ref (b 2), .ref (b 3), .int (m 4), .int (m 5), .int (m 6), .int (m 7), .ref (b 8), .int (m 9), .ref (b 10), .int (m 11), .int (zm_bs tb), .int (nI p1_56), .int (nI ln), .int ft1_56, .int oq1_56, .ref (b 17), .ref (b 18), .ref (b 19), .ref (b 20), .ref (b 21), .ref (b 22), .ref (b 23), .ref (b 24), .int (m 25), .int (m 26), .int (m 27), .int (m 28), .ref (b 29), .ref (b 30), .int (m 31), .int (m 32), .int (m 33), .int (m 34), .int (m 35), .ref (b 36), .ref (b 37), .int (m 38), .ref (b 39), .ref (b 40), .int (m 41), .int (m 42), .int (m 43), .ref (b 44), .ref (b 45), .ref (b 46), .ref (b 47)])), (b 8, .inl (g 0, 120, .inl (fun i => nI (TP i)))), (b 10, .inl (g 0, 120, .inl (fun i => nI (TX i)))), (b 17, .inl (g 0, 6, .inl NM))] sS H locs := G
          have zb_56 := zg_le (em := zm_em NM) (ln := ln) ht d 4 (op) (p2 + 1) (v :: ST) (by omega) (by omega) (by omega) (by omega)
          rcases hz_56 : zg (zm_tx tb TP TX) ln (zm_em NM) d 4 (op) (p2 + 1) (v :: ST) with e | ⟨a9, s9⟩
          · obtain ⟨h1_56, h2_56⟩ := zm_pl w_56 hz_56
            obtain rfl : p1_56 = e := h1_56
            obtain rfl : ft1_56 = nI p1_56 := h2_56
            have hb_56 := zb_56
            rw [hz_56] at hb_56
            have hp_56 : p1_56 ≤ ln := hb_56.2
            refine lv_istore_n (lv' := [(3, .int r_56), (2, .int (nI 0)), (0, .ref (b 100)), (1, .int v)]) Z.1 Z.2.1 dX8_sums_59 rfl hl (by decide) rfl (fun ls hl => ?_)
            refine lv_iload_n Z.1 Z.2.1 dX8_sums_60 rfl (lv_at hl 1 rfl) ?_
            refine lv_if_eq (tgt := 70) Z.1 Z.2.1 dX8_sums_61 (by decide) (fun c61 => ?_) (fun c61 => ?_)
            · have c61 : 0 = 0 := zk_eq (by omega) (by omega) c61
              refine lv_iload_n Z.1 Z.2.1 dX8_sums_70 rfl (lv_at hl 3 rfl) ?_
              refine lv_iload_n Z.1 Z.2.1 dX8_sums_71 rfl (lv_at hl 0 rfl) ?_
              refine zk_isub Z dX8_sums_72 (z := v - r_56) rfl ?_
              refine lv_istore_n (lv' := [(1, .int (v - r_56)), (3, .int r_56), (2, .int (nI 0)), (0, .ref (b 100))]) Z.1 Z.2.1 dX8_sums_73 rfl hl (by decide) rfl (fun ls hl => ?_)
              refine lv_goto (tgt := 5) Z.1 Z.2.1 dX8_sums_74 (by decide) ?_
              refine lv_aload_n Z.1 Z.2.1 dX8_sums_5 rfl (lv_at hl 3 rfl) ?_
              refine zk_get (C := RX8) (T := TX8) (N := 48) (ci := 8) Z hK G hinX8 0 rfl rfl 15 (by decide) (List.mem_cons_of_mem _ wa8_105) rfl (v := .int (nI p1_56)) rfl dX8_sums_6 ?_
              refine lv_if_ge (tgt := 77) Z.1 Z.2.1 dX8_sums_9 (by decide) (fun c9 => ?_) (fun c9 => ?_)
              · have c9 : 0 ≤ p1_56 := zk_le (by omega) (by omega) c9
                refine lv_iload_n Z.1 Z.2.1 dX8_sums_77 rfl (lv_at hl 0 rfl) ?_
                exact zk_reti Z hR_ hlk hK hQ G (p1_56, nI p1_56, oq1_56) (by rw [← hs]; simp only [zg_lp]; rw [if_pos hlv, hz_56]; exact ⟨rfl, rfl⟩) rfl dX8_sums_78
              exfalso
              have c9 : p1_56 < 0 := zk_nle (by omega) (by omega) c9
              omega
            exfalso
            have c61 : 0 ≠ 0 := zk_neq (by omega) (by omega) c61
            omega
          · obtain ⟨h1_56, h2_56, h3_56, h4_56⟩ := zm_pr w_56 hz_56
            obtain rfl : p1_56 = a9 := h1_56
            obtain rfl : ft1_56 = -1 := h2_56
            obtain rfl : oq1_56 = nI (op) := h3_56
            obtain rfl : s9 = r_56 :: (v :: ST) := h4_56
            have hb_56 := zb_56
            rw [hz_56] at hb_56
            have hp_56 : p1_56 ≤ ln := hb_56.2
            have hq_56 : p2 + 1 ≤ p1_56 := hb_56.1
            refine lv_istore_n (lv' := [(3, .int r_56), (2, .int (nI 0)), (0, .ref (b 100)), (1, .int v)]) Z.1 Z.2.1 dX8_sums_59 rfl hl (by decide) rfl (fun ls hl => ?_)
            refine lv_iload_n Z.1 Z.2.1 dX8_sums_60 rfl (lv_at hl 1 rfl) ?_
            refine lv_if_eq (tgt := 70) Z.1 Z.2.1 dX8_sums_61 (by decide) (fun c61 => ?_) (fun c61 => ?_)
            · have c61 : 0 = 0 := zk_eq (by omega) (by omega) c61
              refine lv_iload_n Z.1 Z.2.1 dX8_sums_70 rfl (lv_at hl 3 rfl) ?_
              refine lv_iload_n Z.1 Z.2.1 dX8_sums_71 rfl (lv_at hl 0 rfl) ?_
              refine zk_isub Z dX8_sums_72 (z := v - r_56) rfl ?_
              refine lv_istore_n (lv' := [(1, .int (v - r_56)), (3, .int r_56), (2, .int (nI 0)), (0, .ref (b 100))]) Z.1 Z.2.1 dX8_sums_73 rfl hl (by decide) rfl (fun ls hl => ?_)
              refine lv_goto (tgt := 5) Z.1 Z.2.1 dX8_sums_74 (by decide) ?_
              exact ih5 (v - r_56) p1_56 f9 (by omega) (by omega) (by exact hp_56) (by simp only [zg_lp] at hs; rw [if_pos hlv, hz_56] at hs; try simp only [] at hs; rw [htk] at hs; exact (congrArg (fun z => zg_lp (zm_tx tb TP TX) ln (zm_em NM) (zg (zm_tx tb TP TX) ln (zm_em NM) d 4 op) 3 f9 p1_56 z) (show (v - r_56) :: ST = zm_em NM 45 0 (r_56 :: v :: ST) from congrArg (· :: ST) (rfl))).trans hs) _ _ _ G (lv_sub hl [3, 0] rfl)
            exfalso
            have c61 : 0 ≠ 0 := zk_neq (by omega) (by omega) c61
            omega
        exfalso
        have c36 : zg_c (zm_tx tb TP TX) ln p2 = 43 := zk_eq (by omega) (by omega) c36
        omega
    exact L5 _ r_1 p1_1 120 (Nat.lt_succ_self _) (by omega) (by exact hp_1) (by exact hV) _ _ _ G (lv_sub hl [1, 0] rfl)

theorem gmX8_product_X8_one : GoodIn wmX8_product (wsV RX8 195 RX8 yX8_one wmX8_one) := goodIn_app (wa8_w (List.forall_mem_cons.mpr ⟨wa8_133, List.forall_mem_cons.mpr ⟨wa8_134, List.forall_mem_cons.mpr ⟨wa8_135, List.forall_mem_cons.mpr ⟨wa8_43, fun _ h => absurd h List.not_mem_nil⟩⟩⟩⟩)) (wa8_sub wa8_125)
theorem gmX8_product_X8_byteAt : GoodIn wmX8_product (wsV RX8 176 RX8 yX8_byteAt wmX8_byteAt) := goodIn_app (wa8_w (List.forall_mem_cons.mpr ⟨wa8_107, List.forall_mem_cons.mpr ⟨wa8_108, List.forall_mem_cons.mpr ⟨wa8_109, List.forall_mem_cons.mpr ⟨wa8_43, fun _ h => absurd h List.not_mem_nil⟩⟩⟩⟩)) (wa8_sub wa8_100)
set_option maxRecDepth 100000 in
set_option maxHeartbeats 2000000 in
theorem ct_X8_product_s (l : Launch) (D : va_G) (g : Nat → ClassId) (τ : Nat → Nat) (d : Nat) (ih : zm_L0 l D g τ d ∧ zm_L1 l D g τ d ∧ zm_L2 l D g τ d ∧ zm_L3 l D g τ d ∧ zm_L4 l D g τ d ∧ zm_L5 l D g τ d) : zm_L4 l D g τ (d + 1) := by
  intro b m ln p op tb TP TX NM ST hln hp ht hop hd
  refine zk_of (av := [.ref (b 100)]) (W0 := [(b 100, .inr (8, [.ref (b 0), .ref (b 1), .ref (b 2), .ref (b 3), .int (m 4), .int (m 5), .int (m 6), .int (m 7), .ref (b 8), .int (m 9), .ref (b 10), .int (m 11), .int (zm_bs tb), .int (nI p), .int (nI ln), .int (-1), .int (nI op), .ref (b 17), .ref (b 18), .ref (b 19), .ref (b 20), .ref (b 21), .ref (b 22), .ref (b 23), .ref (b 24), .int (m 25), .int (m 26), .int (m 27), .int (m 28), .ref (b 29), .ref (b 30), .int (m 31), .int (m 32), .int (m 33), .int (m 34), .int (m 35), .ref (b 36), .ref (b 37), .int (m 38), .ref (b 39), .ref (b 40), .int (m 41), .int (m 42), .int (m 43), .ref (b 44), .ref (b 45), .ref (b 46), .ref (b 47)])), (b 8, .inl (g 0, 120, .inl (fun i => nI (TP i)))), (b 10, .inl (g 0, 120, .inl (fun i => nI (TX i)))), (b 17, .inl (g 0, 6, .inl NM))]) (y := yX8_product) (wd := wmX8_product) (Qc := fun A => va_Qi (fun (r : Int32) (uu : Nat × Int32 × Int32) => zm_post (zg (zm_tx tb TP TX) ln (zm_em NM) (d + 1) 4 op p ST) r uu.1 uu.2.1 op uu.2.2 ST) (zk_B D g A (fun (uu : Nat × Int32 × Int32) => [(b 100, .inr (8, [.ref (b 0), .ref (b 1), .ref (b 2), .ref (b 3), .int (m 4), .int (m 5), .int (m 6), .int (m 7), .ref (b 8), .int (m 9), .ref (b 10), .int (m 11), .int (zm_bs tb), .int (nI uu.1), .int (nI ln), .int uu.2.1, .int uu.2.2, .ref (b 17), .ref (b 18), .ref (b 19), .ref (b 20), .ref (b 21), .ref (b 22), .ref (b 23), .ref (b 24), .int (m 25), .int (m 26), .int (m 27), .int (m 28), .ref (b 29), .ref (b 30), .int (m 31), .int (m 32), .int (m 33), .int (m 34), .int (m 35), .ref (b 36), .ref (b 37), .int (m 38), .ref (b 39), .ref (b 40), .int (m 41), .int (m 42), .int (m 43), .ref (b 44), .ref (b 45), .ref (b 46), .ref (b 47)])), (b 8, .inl (g 0, 120, .inl (fun i => nI (TP i)))), (b 10, .inl (g 0, 120, .inl (fun i => nI (TX i)))), (b 17, .inl (g 0, 6, .inl NM))])) A) (cc := cX8_product) (maxL := 4) (ret := (some .int)) (own := RX8) (by decide) rfl rfl (Nat.le_of_ble_eq_true rfl) ?_
  intro pP eE sS mM args below meth cC aA ls qQ Z hR_ hlk hnm hK hT hA hQ G hl
  have hinX8 : ∀ w ∈ u_ws RX8 TX8 48, w ∈ wmX8_product := wa8_in
  refine lv_aload_n Z.1 Z.2.1 dX8_product_0 rfl (lv_at hl 0 rfl) ?_
  refine zk_ci (WF := fun uu => [(b 100, .inr (8, [.ref (b 0), .ref (b 1), .ref (b 2), .ref (b 3), .int (m 4), .int (m 5), .int (m 6), .int (m 7), .ref (b 8), .int (m 9), .ref (b 10), .int (m 11), .int (zm_bs tb), .int (nI uu.1), .int (nI ln), .int uu.2.1, .int uu.2.2, .ref (b 17), .ref (b 18), .ref (b 19), .ref (b 20), .ref (b 21), .ref (b 22), .ref (b 23), .ref (b 24), .int (m 25), .int (m 26), .int (m 27), .int (m 28), .ref (b 29), .ref (b 30), .int (m 31), .int (m 32), .int (m 33), .int (m 34), .int (m 35), .ref (b 36), .ref (b 37), .int (m 38), .ref (b 39), .ref (b 40), .int (m 41), .int (m 42), .int (m 43), .ref (b 44), .ref (b 45), .ref (b 46), .ref (b 47)])), (b 8, .inl (g 0, 120, .inl (fun i => nI (TP i)))), (b 10, .inl (g 0, 120, .inl (fun i => nI (TX i)))), (b 17, .inl (g 0, 6, .inl NM))]) (wr := []) ⟨rfl, rfl⟩ (zk_rv (As := []) (rest := []) (q0 := 0) (ci := 8) Z ((ih.2.2.2.2.2 b m ln p op tb TP TX NM ST (by exact hln) (by exact hp) (by exact ht) (by omega) (by omega)) sS.heap.size) hK hT hA G [0, 1, 2, 3] rfl (by decide) rfl rfl gmX8_product_X8_one rfl dvX8_one ⟨by first | decide | (simp only [rm_X8_either, rm_X8_both, rm_X8_compared, rm_X8_sums, rm_X8_product, rm_X8_one]; omega), by first | decide | (simp only [rm_X8_either, rm_X8_both, rm_X8_compared, rm_X8_sums, rm_X8_product, rm_X8_one]; omega)⟩ rfl hl.1 rfl (Nat.le_of_ble_eq_true rfl) dX8_product_1 ⟨Nat.zero_le _, Nat.zero_le _⟩) hA G [0, 1, 2, 3] [] [0, 1, 2, 3] rfl rfl (by decide) (by decide) (by decide) (fun _ => rfl) (fun r_1 uu H locs w_1 G => ?_)
  obtain ⟨p1_1, ft1_1, oq1_1⟩ := uu
  have G : zk_G D aA [(b 100, .inr (8, [.ref (b 0), .ref (b 1), .ref (b 2), .ref (b 3), .int (m 4), .int (m 5), .int (m 6), .int (m 7), .ref (b 8), .int (m 9), .ref (b 10), .int (m 11), .int (zm_bs tb), .int (nI p1_1), .int (nI ln), .int ft1_1, .int oq1_1, .ref (b 17), .ref (b 18), .ref (b 19), .ref (b 20), .ref (b 21), .ref (b 22), .ref (b 23), .ref (b 24), .int (m 25), .int (m 26), .int (m 27), .int (m 28), .ref (b 29), .ref (b 30), .int (m 31), .int (m 32), .int (m 33), .int (m 34), .int (m 35), .ref (b 36), .ref (b 37), .int (m 38), .ref (b 39), .ref (b 40), .int (m 41), .int (m 42), .int (m 43), .ref (b 44), .ref (b 45), .ref (b 46), .ref (b 47)])), (b 8, .inl (g 0, 120, .inl (fun i => nI (TP i)))), (b 10, .inl (g 0, 120, .inl (fun i => nI (TX i)))), (b 17, .inl (g 0, 6, .inl NM))] sS H locs := G
  have zb_1 := zg_le (em := zm_em NM) (ln := ln) ht d 5 (op) (p) (ST) (by omega) (by omega) (by omega) (by omega)
  rcases hz_1 : zg (zm_tx tb TP TX) ln (zm_em NM) d 5 (op) (p) (ST) with e | ⟨a9, s9⟩
  · obtain ⟨h1_1, h2_1⟩ := zm_pl w_1 hz_1
    obtain rfl : p1_1 = e := h1_1
    obtain rfl : ft1_1 = nI p1_1 := h2_1
    have hb_1 := zb_1
    rw [hz_1] at hb_1
    have hp_1 : p1_1 ≤ ln := hb_1.2
    refine lv_istore_n (lv' := [(1, .int r_1), (0, .ref (b 100))]) Z.1 Z.2.1 dX8_product_4 rfl hl (by decide) rfl (fun ls hl => ?_)
    refine lv_aload_n Z.1 Z.2.1 dX8_product_5 rfl (lv_at hl 1 rfl) ?_
    refine zk_ci (WF := fun (_ : Unit) => [(b 100, .inr (8, [.ref (b 0), .ref (b 1), .ref (b 2), .ref (b 3), .int (m 4), .int (m 5), .int (m 6), .int (m 7), .ref (b 8), .int (m 9), .ref (b 10), .int (m 11), .int (zm_bs tb), .int (nI p1_1), .int (nI ln), .int (nI p1_1), .int oq1_1, .ref (b 17), .ref (b 18), .ref (b 19), .ref (b 20), .ref (b 21), .ref (b 22), .ref (b 23), .ref (b 24), .int (m 25), .int (m 26), .int (m 27), .int (m 28), .ref (b 29), .ref (b 30), .int (m 31), .int (m 32), .int (m 33), .int (m 34), .int (m 35), .ref (b 36), .ref (b 37), .int (m 38), .ref (b 39), .ref (b 40), .int (m 41), .int (m 42), .int (m 43), .ref (b 44), .ref (b 45), .ref (b 46), .ref (b 47)])), (b 8, .inl (g 0, 120, .inl (fun i => nI (TP i)))), (b 10, .inl (g 0, 120, .inl (fun i => nI (TX i)))), (b 17, .inl (g 0, 6, .inl NM))]) (wr := [(b 17, .inl (g 0, 6, .inl NM))]) ⟨rfl, rfl⟩ (zk_rv (As := []) (rest := []) (q0 := 0) (ci := 8) Z ((ct_X8_byteAt l D g τ b m ln p1_1 (nI p1_1) tb TP TX oq1_1 (by exact hln) (by omega)) H.size) hK hT hA G [0, 1, 2] rfl (by decide) rfl rfl gmX8_product_X8_byteAt rfl dvX8_byteAt ⟨by first | decide | (simp only [rm_X8_either, rm_X8_both, rm_X8_compared, rm_X8_sums, rm_X8_product, rm_X8_one]; omega), by first | decide | (simp only [rm_X8_either, rm_X8_both, rm_X8_compared, rm_X8_sums, rm_X8_product, rm_X8_one]; omega)⟩ rfl hl.1 rfl (Nat.le_of_ble_eq_true rfl) dX8_product_6 ⟨Nat.zero_le _, Nat.zero_le _⟩) hA G [0, 1, 2] [3] [1, 2, 3, 0] rfl rfl (by decide) (by decide) (by decide) (fun _ => rfl) (fun r_6 _ H locs w_6 G => ?_)
    obtain rfl : r_6 = nI (zg_c (zm_tx tb TP TX) ln p1_1) := w_6
    refine lv_istore_n (lv' := [(2, .int (nI (zg_c (zm_tx tb TP TX) ln p1_1))), (1, .int r_1), (0, .ref (b 100))]) Z.1 Z.2.1 dX8_product_9 rfl hl (by decide) rfl (fun ls hl => ?_)
    refine lv_aload_n Z.1 Z.2.1 dX8_product_10 rfl (lv_at hl 2 rfl) ?_
    refine zk_get (C := RX8) (T := TX8) (N := 48) (ci := 8) Z hK G hinX8 0 rfl rfl 15 (by decide) (List.mem_cons_of_mem _ wa8_105) rfl (v := .int (nI p1_1)) rfl dX8_product_11 ?_
    refine lv_if_ge (tgt := 94) Z.1 Z.2.1 dX8_product_14 (by decide) (fun c14 => ?_) (fun c14 => ?_)
    · have c14 : 0 ≤ p1_1 := zk_le (by omega) (by omega) c14
      refine lv_iload_n Z.1 Z.2.1 dX8_product_94 rfl (lv_at hl 1 rfl) ?_
      exact zk_reti Z hR_ hlk hK hQ G (p1_1, nI p1_1, oq1_1) (by simp only [zg]; rw [if_pos (by decide), hz_1]; exact ⟨rfl, rfl⟩) rfl dX8_product_95
    exfalso
    have c14 : p1_1 < 0 := zk_nle (by omega) (by omega) c14
    omega
  · obtain ⟨h1_1, h2_1, h3_1, h4_1⟩ := zm_pr w_1 hz_1
    obtain rfl : p1_1 = a9 := h1_1
    obtain rfl : ft1_1 = -1 := h2_1
    obtain rfl : oq1_1 = nI (op) := h3_1
    obtain rfl : s9 = r_1 :: ST := h4_1
    have hb_1 := zb_1
    rw [hz_1] at hb_1
    have hp_1 : p1_1 ≤ ln := hb_1.2
    have hq_1 : p ≤ p1_1 := hb_1.1
    have hV : zg_lp (zm_tx tb TP TX) ln (zm_em NM) (zg (zm_tx tb TP TX) ln (zm_em NM) d 5 op) 4 120 p1_1 (r_1 :: ST) = zg (zm_tx tb TP TX) ln (zm_em NM) (d + 1) 4 op p ST := by simp only [zg]; rw [if_pos (by decide), hz_1]; rfl
    refine lv_istore_n (lv' := [(1, .int r_1), (0, .ref (b 100))]) Z.1 Z.2.1 dX8_product_4 rfl hl (by decide) rfl (fun ls hl => ?_)
    refine lv_aload_n Z.1 Z.2.1 dX8_product_5 rfl (lv_at hl 1 rfl) ?_
    refine zk_ci (WF := fun (_ : Unit) => [(b 100, .inr (8, [.ref (b 0), .ref (b 1), .ref (b 2), .ref (b 3), .int (m 4), .int (m 5), .int (m 6), .int (m 7), .ref (b 8), .int (m 9), .ref (b 10), .int (m 11), .int (zm_bs tb), .int (nI p1_1), .int (nI ln), .int (-1), .int (nI op), .ref (b 17), .ref (b 18), .ref (b 19), .ref (b 20), .ref (b 21), .ref (b 22), .ref (b 23), .ref (b 24), .int (m 25), .int (m 26), .int (m 27), .int (m 28), .ref (b 29), .ref (b 30), .int (m 31), .int (m 32), .int (m 33), .int (m 34), .int (m 35), .ref (b 36), .ref (b 37), .int (m 38), .ref (b 39), .ref (b 40), .int (m 41), .int (m 42), .int (m 43), .ref (b 44), .ref (b 45), .ref (b 46), .ref (b 47)])), (b 8, .inl (g 0, 120, .inl (fun i => nI (TP i)))), (b 10, .inl (g 0, 120, .inl (fun i => nI (TX i)))), (b 17, .inl (g 0, 6, .inl NM))]) (wr := [(b 17, .inl (g 0, 6, .inl NM))]) ⟨rfl, rfl⟩ (zk_rv (As := []) (rest := []) (q0 := 0) (ci := 8) Z ((ct_X8_byteAt l D g τ b m ln p1_1 (-1) tb TP TX (nI op) (by exact hln) (by omega)) H.size) hK hT hA G [0, 1, 2] rfl (by decide) rfl rfl gmX8_product_X8_byteAt rfl dvX8_byteAt ⟨by first | decide | (simp only [rm_X8_either, rm_X8_both, rm_X8_compared, rm_X8_sums, rm_X8_product, rm_X8_one]; omega), by first | decide | (simp only [rm_X8_either, rm_X8_both, rm_X8_compared, rm_X8_sums, rm_X8_product, rm_X8_one]; omega)⟩ rfl hl.1 rfl (Nat.le_of_ble_eq_true rfl) dX8_product_6 ⟨Nat.zero_le _, Nat.zero_le _⟩) hA G [0, 1, 2] [3] [1, 2, 3, 0] rfl rfl (by decide) (by decide) (by decide) (fun _ => rfl) (fun r_6 _ H locs w_6 G => ?_)
    obtain rfl : r_6 = nI (zg_c (zm_tx tb TP TX) ln p1_1) := w_6
    refine lv_istore_n (lv' := [(2, .int (nI (zg_c (zm_tx tb TP TX) ln p1_1))), (1, .int r_1), (0, .ref (b 100))]) Z.1 Z.2.1 dX8_product_9 rfl hl (by decide) rfl (fun ls hl => ?_)
    have L10 : ∀ (nN : Nat) (v : Int32) (p2 : Nat) (f : Nat), f < nN → (120 ≤ p2 + f) → (p2 ≤ ln) → (zg_lp (zm_tx tb TP TX) ln (zm_em NM) (zg (zm_tx tb TP TX) ln (zm_em NM) d 5 op) 4 f p2 (v :: ST) = zg (zm_tx tb TP TX) ln (zm_em NM) (d + 1) 4 op p ST) → ∀ (H : Heap) (locs : List Loc) (ls : Array Slot), zk_G D aA [(b 100, .inr (8, [.ref (b 0), .ref (b 1), .ref (b 2), .ref (b 3), .int (m 4), .int (m 5), .int (m 6), .int (m 7), .ref (b 8), .int (m 9), .ref (b 10), .int (m 11), .int (zm_bs tb), .int (nI p2), .int (nI ln), .int (-1), .int (nI op), .ref (b 17), .ref (b 18), .ref (b 19), .ref (b 20), .ref (b 21), .ref (b 22), .ref (b 23), .ref (b 24), .int (m 25), .int (m 26), .int (m 27), .int (m 28), .ref (b 29), .ref (b 30), .int (m 31), .int (m 32), .int (m 33), .int (m 34), .int (m 35), .ref (b 36), .ref (b 37), .int (m 38), .ref (b 39), .ref (b 40), .int (m 41), .int (m 42), .int (m 43), .ref (b 44), .ref (b 45), .ref (b 46), .ref (b 47)])), (b 8, .inl (g 0, 120, .inl (fun i => nI (TP i)))), (b 10, .inl (g 0, 120, .inl (fun i => nI (TX i)))), (b 17, .inl (g 0, 6, .inl NM))] sS H locs → lv_has ls 4 [(0, .ref (b 100)), (1, .int v), (2, .int (nI (zg_c (zm_tx tb TP TX) ln p2)))] → W pP l eE (rm_X8_product (d + 1)) sS mM args below meth cC H locs 0 0 qQ (F0 mM 10 ls []) := by
      intro nN
      induction nN with
      | zero => intros; omega
      | succ nN ih10 =>
        intro v p2 f hμ hpf hp2 hs H locs ls G hl
        have hcb := zg_c_256 (ln := ln) ht p2
        refine lv_aload_n Z.1 Z.2.1 dX8_product_10 rfl (lv_at hl 0 rfl) ?_
        refine zk_get (C := RX8) (T := TX8) (N := 48) (ci := 8) Z hK G hinX8 0 rfl rfl 15 (by decide) (List.mem_cons_of_mem _ wa8_105) rfl (v := .int (-1)) rfl dX8_product_11 ?_
        refine lv_if_ge (tgt := 94) Z.1 Z.2.1 dX8_product_14 (by decide) (fun c14 => ?_) (fun c14 => ?_)
        · exfalso
          have c14 : 0 ≤ ((-1) : Int32) := c14
          exact absurd c14 (by decide)
        have c14 : ¬ 0 ≤ ((-1) : Int32) := c14
        refine lv_iload_n Z.1 Z.2.1 dX8_product_17 rfl (lv_at hl 2 rfl) ?_
        refine lv_bipush (v := nI 42) Z.1 Z.2.1 dX8_product_18 (by decide +kernel) ?_
        refine lv_icmp_eq (tgt := 35) Z.1 Z.2.1 dX8_product_20 (by decide) (fun c20 => ?_) (fun c20 => ?_)
        · have c20 : zg_c (zm_tx tb TP TX) ln p2 = 42 := zk_eq (by omega) (by omega) c20
          have htk : zg_c (zm_tx tb TP TX) ln p2 = 42 := c20
          have hlv : zg_lev (zg_c (zm_tx tb TP TX) ln p2) = 4 := by rw [htk]; rfl
          have hpl : p2 < ln := zg_c_lt (tp := (zm_tx tb TP TX)) (by rw [htk]; decide)
          obtain ⟨f9, rfl⟩ : ∃ f9, f = f9 + 1 := ⟨f - 1, by omega⟩
          refine lv_aload_n Z.1 Z.2.1 dX8_product_35 rfl (lv_at hl 0 rfl) ?_
          refine lv_dup Z.1 Z.2.1 dX8_product_36 rfl ?_
          refine zk_get (C := RX8) (T := TX8) (N := 48) (ci := 8) Z hK G hinX8 0 rfl rfl 13 (by decide) (List.mem_cons_of_mem _ wa8_101) rfl (v := .int (nI p2)) rfl dX8_product_37 ?_
          refine lv_iconst (v := nI 1) Z.1 Z.2.1 dX8_product_40 (by decide +kernel) ?_
          refine zk_iadd Z dX8_product_41 (z := nI (p2 + 1)) (nI_add _ _) ?_
          refine zk_put tyX8 tyX8_ok nmX8 (C := RX8) (T := TX8) (N := 48) (ci := 8) Z hK G hinX8 0 rfl rfl 13 (by decide) (List.mem_cons_of_mem _ wa8_101) rfl rfl rfl rfl (Nat.le_of_ble_eq_true rfl) (ws' := [(b 100, .inr (8, [.ref (b 0), .ref (b 1), .ref (b 2), .ref (b 3), .int (m 4), .int (m 5), .int (m 6), .int (m 7), .ref (b 8), .int (m 9), .ref (b 10), .int (m 11), .int (zm_bs tb), .int (nI (p2 + 1)), .int (nI ln), .int (-1), .int (nI op), .ref (b 17), .ref (b 18), .ref (b 19), .ref (b 20), .ref (b 21), .ref (b 22), .ref (b 23), .ref (b 24), .int (m 25), .int (m 26), .int (m 27), .int (m 28), .ref (b 29), .ref (b 30), .int (m 31), .int (m 32), .int (m 33), .int (m 34), .int (m 35), .ref (b 36), .ref (b 37), .int (m 38), .ref (b 39), .ref (b 40), .int (m 41), .int (m 42), .int (m 43), .ref (b 44), .ref (b 45), .ref (b 46), .ref (b 47)])), (b 8, .inl (g 0, 120, .inl (fun i => nI (TP i)))), (b 10, .inl (g 0, 120, .inl (fun i => nI (TX i)))), (b 17, .inl (g 0, 6, .inl NM))]) rfl dX8_product_42 (fun H locs G => ?_)
          refine lv_aload_n Z.1 Z.2.1 dX8_product_45 rfl (lv_at hl 0 rfl) ?_
          refine zk_ci (WF := fun uu => [(b 100, .inr (8, [.ref (b 0), .ref (b 1), .ref (b 2), .ref (b 3), .int (m 4), .int (m 5), .int (m 6), .int (m 7), .ref (b 8), .int (m 9), .ref (b 10), .int (m 11), .int (zm_bs tb), .int (nI uu.1), .int (nI ln), .int uu.2.1, .int uu.2.2, .ref (b 17), .ref (b 18), .ref (b 19), .ref (b 20), .ref (b 21), .ref (b 22), .ref (b 23), .ref (b 24), .int (m 25), .int (m 26), .int (m 27), .int (m 28), .ref (b 29), .ref (b 30), .int (m 31), .int (m 32), .int (m 33), .int (m 34), .int (m 35), .ref (b 36), .ref (b 37), .int (m 38), .ref (b 39), .ref (b 40), .int (m 41), .int (m 42), .int (m 43), .ref (b 44), .ref (b 45), .ref (b 46), .ref (b 47)])), (b 8, .inl (g 0, 120, .inl (fun i => nI (TP i)))), (b 10, .inl (g 0, 120, .inl (fun i => nI (TX i)))), (b 17, .inl (g 0, 6, .inl NM))]) (wr := []) ⟨rfl, rfl⟩ (zk_rv (As := []) (rest := []) (q0 := 0) (ci := 8) Z ((ih.2.2.2.2.2 b m ln (p2 + 1) op tb TP TX NM (v :: ST) (by exact hln) (by omega) (by exact ht) (by omega) (by omega)) H.size) hK hT hA G [0, 1, 2, 3] rfl (by decide) rfl rfl gmX8_product_X8_one rfl dvX8_one ⟨by first | decide | (simp only [rm_X8_either, rm_X8_both, rm_X8_compared, rm_X8_sums, rm_X8_product, rm_X8_one]; omega), by first | decide | (simp only [rm_X8_either, rm_X8_both, rm_X8_compared, rm_X8_sums, rm_X8_product, rm_X8_one]; omega)⟩ rfl hl.1 rfl (Nat.le_of_ble_eq_true rfl) dX8_product_46 ⟨Nat.zero_le _, Nat.zero_le _⟩) hA G [0, 1, 2, 3] [] [0, 1, 2, 3] rfl rfl (by decide) (by decide) (by decide) (fun _ => rfl) (fun r_46 uu H locs w_46 G => ?_)
          obtain ⟨p1_46, ft1_46, oq1_46⟩ := uu
          have G : zk_G D aA [(b 100, .inr (8, [.ref (b 0), .ref (b 1), .ref (b 2), .ref (b 3), .int (m 4), .int (m 5), .int (m 6), .int (m 7), .ref (b 8), .int (m 9), .ref (b 10), .int (m 11), .int (zm_bs tb), .int (nI p1_46), .int (nI ln), .int ft1_46, .int oq1_46, .ref (b 17), .ref (b 18), .ref (b 19), .ref (b 20), .ref (b 21), .ref (b 22), .ref (b 23), .ref (b 24), .int (m 25), .int (m 26), .int (m 27), .int (m 28), .ref (b 29), .ref (b 30), .int (m 31), .int (m 32), .int (m 33), .int (m 34), .int (m 35), .ref (b 36), .ref (b 37), .int (m 38), .ref (b 39), .ref (b 40), .int (m 41), .int (m 42), .int (m 43), .ref (b 44), .ref (b 45), .ref (b 46), .ref (b 47)])), (b 8, .inl (g 0, 120, .inl (fun i => nI (TP i)))), (b 10, .inl (g 0, 120, .inl (fun i => nI (TX i)))), (b 17, .inl (g 0, 6, .inl NM))] sS H locs := G
          have zb_46 := zg_le (em := zm_em NM) (ln := ln) ht d 5 (op) (p2 + 1) (v :: ST) (by omega) (by omega) (by omega) (by omega)
          rcases hz_46 : zg (zm_tx tb TP TX) ln (zm_em NM) d 5 (op) (p2 + 1) (v :: ST) with e | ⟨a9, s9⟩
          · obtain ⟨h1_46, h2_46⟩ := zm_pl w_46 hz_46
            obtain rfl : p1_46 = e := h1_46
            obtain rfl : ft1_46 = nI p1_46 := h2_46
            have hb_46 := zb_46
            rw [hz_46] at hb_46
            have hp_46 : p1_46 ≤ ln := hb_46.2
            refine lv_istore_n (lv' := [(3, .int r_46), (0, .ref (b 100)), (1, .int v), (2, .int (nI (zg_c (zm_tx tb TP TX) ln p2)))]) Z.1 Z.2.1 dX8_product_49 rfl hl (by decide) rfl (fun ls hl => ?_)
            refine lv_iload_n Z.1 Z.2.1 dX8_product_50 rfl (lv_at hl 3 rfl) ?_
            refine lv_bipush (v := nI 42) Z.1 Z.2.1 dX8_product_51 (by decide +kernel) ?_
            refine lv_icmp_ne (tgt := 62) Z.1 Z.2.1 dX8_product_53 (by decide) (fun c53 => ?_) (fun c53 => ?_)
            · exfalso
              have c53 : zg_c (zm_tx tb TP TX) ln p2 ≠ 42 := zk_neq (by omega) (by omega) c53
              exact c53 htk
            have c53 : zg_c (zm_tx tb TP TX) ln p2 = 42 := zk_eq (by omega) (by omega) c53
            refine lv_iload_n Z.1 Z.2.1 dX8_product_56 rfl (lv_at hl 2 rfl) ?_
            refine lv_iload_n Z.1 Z.2.1 dX8_product_57 rfl (lv_at hl 0 rfl) ?_
            refine zk_imul Z dX8_product_58 (z := v * r_46) rfl ?_
            refine lv_goto (tgt := 85) Z.1 Z.2.1 dX8_product_59 (by decide) ?_
            refine lv_istore_n (lv' := [(1, .int (v * r_46)), (3, .int r_46), (0, .ref (b 100)), (2, .int (nI (zg_c (zm_tx tb TP TX) ln p2)))]) Z.1 Z.2.1 dX8_product_85 rfl hl (by decide) rfl (fun ls hl => ?_)
            refine lv_aload_n Z.1 Z.2.1 dX8_product_86 rfl (lv_at hl 2 rfl) ?_
            refine zk_ci (WF := fun (_ : Unit) => [(b 100, .inr (8, [.ref (b 0), .ref (b 1), .ref (b 2), .ref (b 3), .int (m 4), .int (m 5), .int (m 6), .int (m 7), .ref (b 8), .int (m 9), .ref (b 10), .int (m 11), .int (zm_bs tb), .int (nI p1_46), .int (nI ln), .int (nI p1_46), .int oq1_46, .ref (b 17), .ref (b 18), .ref (b 19), .ref (b 20), .ref (b 21), .ref (b 22), .ref (b 23), .ref (b 24), .int (m 25), .int (m 26), .int (m 27), .int (m 28), .ref (b 29), .ref (b 30), .int (m 31), .int (m 32), .int (m 33), .int (m 34), .int (m 35), .ref (b 36), .ref (b 37), .int (m 38), .ref (b 39), .ref (b 40), .int (m 41), .int (m 42), .int (m 43), .ref (b 44), .ref (b 45), .ref (b 46), .ref (b 47)])), (b 8, .inl (g 0, 120, .inl (fun i => nI (TP i)))), (b 10, .inl (g 0, 120, .inl (fun i => nI (TX i)))), (b 17, .inl (g 0, 6, .inl NM))]) (wr := [(b 17, .inl (g 0, 6, .inl NM))]) ⟨rfl, rfl⟩ (zk_rv (As := []) (rest := []) (q0 := 0) (ci := 8) Z ((ct_X8_byteAt l D g τ b m ln p1_46 (nI p1_46) tb TP TX oq1_46 (by exact hln) (by omega)) H.size) hK hT hA G [0, 1, 2] rfl (by decide) rfl rfl gmX8_product_X8_byteAt rfl dvX8_byteAt ⟨by first | decide | (simp only [rm_X8_either, rm_X8_both, rm_X8_compared, rm_X8_sums, rm_X8_product, rm_X8_one]; omega), by first | decide | (simp only [rm_X8_either, rm_X8_both, rm_X8_compared, rm_X8_sums, rm_X8_product, rm_X8_one]; omega)⟩ rfl hl.1 rfl (Nat.le_of_ble_eq_true rfl) dX8_product_87 ⟨Nat.zero_le _, Nat.zero_le _⟩) hA G [0, 1, 2] [3] [1, 2, 3, 0] rfl rfl (by decide) (by decide) (by decide) (fun _ => rfl) (fun r_87 _ H locs w_87 G => ?_)
            obtain rfl : r_87 = nI (zg_c (zm_tx tb TP TX) ln p1_46) := w_87
            refine lv_istore_n (lv' := [(2, .int (nI (zg_c (zm_tx tb TP TX) ln p1_46))), (1, .int (v * r_46)), (3, .int r_46), (0, .ref (b 100))]) Z.1 Z.2.1 dX8_product_90 rfl hl (by decide) rfl (fun ls hl => ?_)
            refine lv_goto (tgt := 10) Z.1 Z.2.1 dX8_product_91 (by decide) ?_
            refine lv_aload_n Z.1 Z.2.1 dX8_product_10 rfl (lv_at hl 3 rfl) ?_
            refine zk_get (C := RX8) (T := TX8) (N := 48) (ci := 8) Z hK G hinX8 0 rfl rfl 15 (by decide) (List.mem_cons_of_mem _ wa8_105) rfl (v := .int (nI p1_46)) rfl dX8_product_11 ?_
            refine lv_if_ge (tgt := 94) Z.1 Z.2.1 dX8_product_14 (by decide) (fun c14 => ?_) (fun c14 => ?_)
            · have c14 : 0 ≤ p1_46 := zk_le (by omega) (by omega) c14
              refine lv_iload_n Z.1 Z.2.1 dX8_product_94 rfl (lv_at hl 1 rfl) ?_
              exact zk_reti Z hR_ hlk hK hQ G (p1_46, nI p1_46, oq1_46) (by rw [← hs]; simp only [zg_lp]; rw [if_pos hlv, hz_46]; exact ⟨rfl, rfl⟩) rfl dX8_product_95
            exfalso
            have c14 : p1_46 < 0 := zk_nle (by omega) (by omega) c14
            omega
          · obtain ⟨h1_46, h2_46, h3_46, h4_46⟩ := zm_pr w_46 hz_46
            obtain rfl : p1_46 = a9 := h1_46
            obtain rfl : ft1_46 = -1 := h2_46
            obtain rfl : oq1_46 = nI (op) := h3_46
            obtain rfl : s9 = r_46 :: (v :: ST) := h4_46
            have hb_46 := zb_46
            rw [hz_46] at hb_46
            have hp_46 : p1_46 ≤ ln := hb_46.2
            have hq_46 : p2 + 1 ≤ p1_46 := hb_46.1
            refine lv_istore_n (lv' := [(3, .int r_46), (0, .ref (b 100)), (1, .int v), (2, .int (nI (zg_c (zm_tx tb TP TX) ln p2)))]) Z.1 Z.2.1 dX8_product_49 rfl hl (by decide) rfl (fun ls hl => ?_)
            refine lv_iload_n Z.1 Z.2.1 dX8_product_50 rfl (lv_at hl 3 rfl) ?_
            refine lv_bipush (v := nI 42) Z.1 Z.2.1 dX8_product_51 (by decide +kernel) ?_
            refine lv_icmp_ne (tgt := 62) Z.1 Z.2.1 dX8_product_53 (by decide) (fun c53 => ?_) (fun c53 => ?_)
            · exfalso
              have c53 : zg_c (zm_tx tb TP TX) ln p2 ≠ 42 := zk_neq (by omega) (by omega) c53
              exact c53 htk
            have c53 : zg_c (zm_tx tb TP TX) ln p2 = 42 := zk_eq (by omega) (by omega) c53
            refine lv_iload_n Z.1 Z.2.1 dX8_product_56 rfl (lv_at hl 2 rfl) ?_
            refine lv_iload_n Z.1 Z.2.1 dX8_product_57 rfl (lv_at hl 0 rfl) ?_
            refine zk_imul Z dX8_product_58 (z := v * r_46) rfl ?_
            refine lv_goto (tgt := 85) Z.1 Z.2.1 dX8_product_59 (by decide) ?_
            refine lv_istore_n (lv' := [(1, .int (v * r_46)), (3, .int r_46), (0, .ref (b 100)), (2, .int (nI (zg_c (zm_tx tb TP TX) ln p2)))]) Z.1 Z.2.1 dX8_product_85 rfl hl (by decide) rfl (fun ls hl => ?_)
            refine lv_aload_n Z.1 Z.2.1 dX8_product_86 rfl (lv_at hl 2 rfl) ?_
            refine zk_ci (WF := fun (_ : Unit) => [(b 100, .inr (8, [.ref (b 0), .ref (b 1), .ref (b 2), .ref (b 3), .int (m 4), .int (m 5), .int (m 6), .int (m 7), .ref (b 8), .int (m 9), .ref (b 10), .int (m 11), .int (zm_bs tb), .int (nI p1_46), .int (nI ln), .int (-1), .int (nI op), .ref (b 17), .ref (b 18), .ref (b 19), .ref (b 20), .ref (b 21), .ref (b 22), .ref (b 23), .ref (b 24), .int (m 25), .int (m 26), .int (m 27), .int (m 28), .ref (b 29), .ref (b 30), .int (m 31), .int (m 32), .int (m 33), .int (m 34), .int (m 35), .ref (b 36), .ref (b 37), .int (m 38), .ref (b 39), .ref (b 40), .int (m 41), .int (m 42), .int (m 43), .ref (b 44), .ref (b 45), .ref (b 46), .ref (b 47)])), (b 8, .inl (g 0, 120, .inl (fun i => nI (TP i)))), (b 10, .inl (g 0, 120, .inl (fun i => nI (TX i)))), (b 17, .inl (g 0, 6, .inl NM))]) (wr := [(b 17, .inl (g 0, 6, .inl NM))]) ⟨rfl, rfl⟩ (zk_rv (As := []) (rest := []) (q0 := 0) (ci := 8) Z ((ct_X8_byteAt l D g τ b m ln p1_46 (-1) tb TP TX (nI op) (by exact hln) (by omega)) H.size) hK hT hA G [0, 1, 2] rfl (by decide) rfl rfl gmX8_product_X8_byteAt rfl dvX8_byteAt ⟨by first | decide | (simp only [rm_X8_either, rm_X8_both, rm_X8_compared, rm_X8_sums, rm_X8_product, rm_X8_one]; omega), by first | decide | (simp only [rm_X8_either, rm_X8_both, rm_X8_compared, rm_X8_sums, rm_X8_product, rm_X8_one]; omega)⟩ rfl hl.1 rfl (Nat.le_of_ble_eq_true rfl) dX8_product_87 ⟨Nat.zero_le _, Nat.zero_le _⟩) hA G [0, 1, 2] [3] [1, 2, 3, 0] rfl rfl (by decide) (by decide) (by decide) (fun _ => rfl) (fun r_87 _ H locs w_87 G => ?_)
            obtain rfl : r_87 = nI (zg_c (zm_tx tb TP TX) ln p1_46) := w_87
            refine lv_istore_n (lv' := [(2, .int (nI (zg_c (zm_tx tb TP TX) ln p1_46))), (1, .int (v * r_46)), (3, .int r_46), (0, .ref (b 100))]) Z.1 Z.2.1 dX8_product_90 rfl hl (by decide) rfl (fun ls hl => ?_)
            refine lv_goto (tgt := 10) Z.1 Z.2.1 dX8_product_91 (by decide) ?_
            exact ih10 (v * r_46) p1_46 f9 (by omega) (by omega) (by exact hp_46) (by simp only [zg_lp] at hs; rw [if_pos hlv, hz_46] at hs; try simp only [] at hs; rw [htk] at hs; exact (congrArg (fun z => zg_lp (zm_tx tb TP TX) ln (zm_em NM) (zg (zm_tx tb TP TX) ln (zm_em NM) d 5 op) 4 f9 p1_46 z) (show (v * r_46) :: ST = zm_em NM 42 0 (r_46 :: v :: ST) from congrArg (· :: ST) (rfl))).trans hs) _ _ _ G (lv_sub hl [3, 1, 0] rfl)
        have c20 : zg_c (zm_tx tb TP TX) ln p2 ≠ 42 := zk_neq (by omega) (by omega) c20
        refine lv_iload_n Z.1 Z.2.1 dX8_product_23 rfl (lv_at hl 2 rfl) ?_
        refine lv_bipush (v := nI 47) Z.1 Z.2.1 dX8_product_24 (by decide +kernel) ?_
        refine lv_icmp_eq (tgt := 35) Z.1 Z.2.1 dX8_product_26 (by decide) (fun c26 => ?_) (fun c26 => ?_)
        · have c26 : zg_c (zm_tx tb TP TX) ln p2 = 47 := zk_eq (by omega) (by omega) c26
          have htk : zg_c (zm_tx tb TP TX) ln p2 = 47 := c26
          have hlv : zg_lev (zg_c (zm_tx tb TP TX) ln p2) = 4 := by rw [htk]; rfl
          have hpl : p2 < ln := zg_c_lt (tp := (zm_tx tb TP TX)) (by rw [htk]; decide)
          obtain ⟨f9, rfl⟩ : ∃ f9, f = f9 + 1 := ⟨f - 1, by omega⟩
          refine lv_aload_n Z.1 Z.2.1 dX8_product_35 rfl (lv_at hl 0 rfl) ?_
          refine lv_dup Z.1 Z.2.1 dX8_product_36 rfl ?_
          refine zk_get (C := RX8) (T := TX8) (N := 48) (ci := 8) Z hK G hinX8 0 rfl rfl 13 (by decide) (List.mem_cons_of_mem _ wa8_101) rfl (v := .int (nI p2)) rfl dX8_product_37 ?_
          refine lv_iconst (v := nI 1) Z.1 Z.2.1 dX8_product_40 (by decide +kernel) ?_
          refine zk_iadd Z dX8_product_41 (z := nI (p2 + 1)) (nI_add _ _) ?_
          refine zk_put tyX8 tyX8_ok nmX8 (C := RX8) (T := TX8) (N := 48) (ci := 8) Z hK G hinX8 0 rfl rfl 13 (by decide) (List.mem_cons_of_mem _ wa8_101) rfl rfl rfl rfl (Nat.le_of_ble_eq_true rfl) (ws' := [(b 100, .inr (8, [.ref (b 0), .ref (b 1), .ref (b 2), .ref (b 3), .int (m 4), .int (m 5), .int (m 6), .int (m 7), .ref (b 8), .int (m 9), .ref (b 10), .int (m 11), .int (zm_bs tb), .int (nI (p2 + 1)), .int (nI ln), .int (-1), .int (nI op), .ref (b 17), .ref (b 18), .ref (b 19), .ref (b 20), .ref (b 21), .ref (b 22), .ref (b 23), .ref (b 24), .int (m 25), .int (m 26), .int (m 27), .int (m 28), .ref (b 29), .ref (b 30), .int (m 31), .int (m 32), .int (m 33), .int (m 34), .int (m 35), .ref (b 36), .ref (b 37), .int (m 38), .ref (b 39), .ref (b 40), .int (m 41), .int (m 42), .int (m 43), .ref (b 44), .ref (b 45), .ref (b 46), .ref (b 47)])), (b 8, .inl (g 0, 120, .inl (fun i => nI (TP i)))), (b 10, .inl (g 0, 120, .inl (fun i => nI (TX i)))), (b 17, .inl (g 0, 6, .inl NM))]) rfl dX8_product_42 (fun H locs G => ?_)
          refine lv_aload_n Z.1 Z.2.1 dX8_product_45 rfl (lv_at hl 0 rfl) ?_
          refine zk_ci (WF := fun uu => [(b 100, .inr (8, [.ref (b 0), .ref (b 1), .ref (b 2), .ref (b 3), .int (m 4), .int (m 5), .int (m 6), .int (m 7), .ref (b 8), .int (m 9), .ref (b 10), .int (m 11), .int (zm_bs tb), .int (nI uu.1), .int (nI ln), .int uu.2.1, .int uu.2.2, .ref (b 17), .ref (b 18), .ref (b 19), .ref (b 20), .ref (b 21), .ref (b 22), .ref (b 23), .ref (b 24), .int (m 25), .int (m 26), .int (m 27), .int (m 28), .ref (b 29), .ref (b 30), .int (m 31), .int (m 32), .int (m 33), .int (m 34), .int (m 35), .ref (b 36), .ref (b 37), .int (m 38), .ref (b 39), .ref (b 40), .int (m 41), .int (m 42), .int (m 43), .ref (b 44), .ref (b 45), .ref (b 46), .ref (b 47)])), (b 8, .inl (g 0, 120, .inl (fun i => nI (TP i)))), (b 10, .inl (g 0, 120, .inl (fun i => nI (TX i)))), (b 17, .inl (g 0, 6, .inl NM))]) (wr := []) ⟨rfl, rfl⟩ (zk_rv (As := []) (rest := []) (q0 := 0) (ci := 8) Z ((ih.2.2.2.2.2 b m ln (p2 + 1) op tb TP TX NM (v :: ST) (by exact hln) (by omega) (by exact ht) (by omega) (by omega)) H.size) hK hT hA G [0, 1, 2, 3] rfl (by decide) rfl rfl gmX8_product_X8_one rfl dvX8_one ⟨by first | decide | (simp only [rm_X8_either, rm_X8_both, rm_X8_compared, rm_X8_sums, rm_X8_product, rm_X8_one]; omega), by first | decide | (simp only [rm_X8_either, rm_X8_both, rm_X8_compared, rm_X8_sums, rm_X8_product, rm_X8_one]; omega)⟩ rfl hl.1 rfl (Nat.le_of_ble_eq_true rfl) dX8_product_46 ⟨Nat.zero_le _, Nat.zero_le _⟩) hA G [0, 1, 2, 3] [] [0, 1, 2, 3] rfl rfl (by decide) (by decide) (by decide) (fun _ => rfl) (fun r_46 uu H locs w_46 G => ?_)
          obtain ⟨p1_46, ft1_46, oq1_46⟩ := uu
          have G : zk_G D aA [(b 100, .inr (8, [.ref (b 0), .ref (b 1), .ref (b 2), .ref (b 3), .int (m 4), .int (m 5), .int (m 6), .int (m 7), .ref (b 8), .int (m 9), .ref (b 10), .int (m 11), .int (zm_bs tb), .int (nI p1_46), .int (nI ln), .int ft1_46, .int oq1_46, .ref (b 17), .ref (b 18), .ref (b 19), .ref (b 20), .ref (b 21), .ref (b 22), .ref (b 23), .ref (b 24), .int (m 25), .int (m 26), .int (m 27), .int (m 28), .ref (b 29), .ref (b 30), .int (m 31), .int (m 32), .int (m 33), .int (m 34), .int (m 35), .ref (b 36), .ref (b 37), .int (m 38), .ref (b 39), .ref (b 40), .int (m 41), .int (m 42), .int (m 43), .ref (b 44), .ref (b 45), .ref (b 46), .ref (b 47)])), (b 8, .inl (g 0, 120, .inl (fun i => nI (TP i)))), (b 10, .inl (g 0, 120, .inl (fun i => nI (TX i)))), (b 17, .inl (g 0, 6, .inl NM))] sS H locs := G
          have zb_46 := zg_le (em := zm_em NM) (ln := ln) ht d 5 (op) (p2 + 1) (v :: ST) (by omega) (by omega) (by omega) (by omega)
          rcases hz_46 : zg (zm_tx tb TP TX) ln (zm_em NM) d 5 (op) (p2 + 1) (v :: ST) with e | ⟨a9, s9⟩
          · obtain ⟨h1_46, h2_46⟩ := zm_pl w_46 hz_46
            obtain rfl : p1_46 = e := h1_46
            obtain rfl : ft1_46 = nI p1_46 := h2_46
            have hb_46 := zb_46
            rw [hz_46] at hb_46
            have hp_46 : p1_46 ≤ ln := hb_46.2
            refine lv_istore_n (lv' := [(3, .int r_46), (0, .ref (b 100)), (1, .int v), (2, .int (nI (zg_c (zm_tx tb TP TX) ln p2)))]) Z.1 Z.2.1 dX8_product_49 rfl hl (by decide) rfl (fun ls hl => ?_)
            refine lv_iload_n Z.1 Z.2.1 dX8_product_50 rfl (lv_at hl 3 rfl) ?_
            refine lv_bipush (v := nI 42) Z.1 Z.2.1 dX8_product_51 (by decide +kernel) ?_
            refine lv_icmp_ne (tgt := 62) Z.1 Z.2.1 dX8_product_53 (by decide) (fun c53 => ?_) (fun c53 => ?_)
            · have c53 : zg_c (zm_tx tb TP TX) ln p2 ≠ 42 := zk_neq (by omega) (by omega) c53
              refine lv_iload_n Z.1 Z.2.1 dX8_product_62 rfl (lv_at hl 0 rfl) ?_
              refine lv_if_ne (tgt := 70) Z.1 Z.2.1 dX8_product_63 (by decide) (fun c63 => ?_) (fun c63 => ?_)
              · have c63 : ¬ r_46 = 0 := c63
                refine lv_iload_n Z.1 Z.2.1 dX8_product_70 rfl (lv_at hl 3 rfl) ?_
                refine lv_bipush (v := nI 47) Z.1 Z.2.1 dX8_product_71 (by decide +kernel) ?_
                refine lv_icmp_ne (tgt := 82) Z.1 Z.2.1 dX8_product_73 (by decide) (fun c73 => ?_) (fun c73 => ?_)
                · exfalso
                  have c73 : zg_c (zm_tx tb TP TX) ln p2 ≠ 47 := zk_neq (by omega) (by omega) c73
                  exact c73 htk
                have c73 : zg_c (zm_tx tb TP TX) ln p2 = 47 := zk_eq (by omega) (by omega) c73
                refine lv_iload_n Z.1 Z.2.1 dX8_product_76 rfl (lv_at hl 2 rfl) ?_
                refine lv_iload_n Z.1 Z.2.1 dX8_product_77 rfl (lv_at hl 0 rfl) ?_
                refine zk_idiv Z dX8_product_78 c63 (z := v / r_46) rfl ?_
                refine lv_goto (tgt := 85) Z.1 Z.2.1 dX8_product_79 (by decide) ?_
                refine lv_istore_n (lv' := [(1, .int (v / r_46)), (3, .int r_46), (0, .ref (b 100)), (2, .int (nI (zg_c (zm_tx tb TP TX) ln p2)))]) Z.1 Z.2.1 dX8_product_85 rfl hl (by decide) rfl (fun ls hl => ?_)
                refine lv_aload_n Z.1 Z.2.1 dX8_product_86 rfl (lv_at hl 2 rfl) ?_
                refine zk_ci (WF := fun (_ : Unit) => [(b 100, .inr (8, [.ref (b 0), .ref (b 1), .ref (b 2), .ref (b 3), .int (m 4), .int (m 5), .int (m 6), .int (m 7), .ref (b 8), .int (m 9), .ref (b 10), .int (m 11), .int (zm_bs tb), .int (nI p1_46), .int (nI ln), .int (nI p1_46), .int oq1_46, .ref (b 17), .ref (b 18), .ref (b 19), .ref (b 20), .ref (b 21), .ref (b 22), .ref (b 23), .ref (b 24), .int (m 25), .int (m 26), .int (m 27), .int (m 28), .ref (b 29), .ref (b 30), .int (m 31), .int (m 32), .int (m 33), .int (m 34), .int (m 35), .ref (b 36), .ref (b 37), .int (m 38), .ref (b 39), .ref (b 40), .int (m 41), .int (m 42), .int (m 43), .ref (b 44), .ref (b 45), .ref (b 46), .ref (b 47)])), (b 8, .inl (g 0, 120, .inl (fun i => nI (TP i)))), (b 10, .inl (g 0, 120, .inl (fun i => nI (TX i)))), (b 17, .inl (g 0, 6, .inl NM))]) (wr := [(b 17, .inl (g 0, 6, .inl NM))]) ⟨rfl, rfl⟩ (zk_rv (As := []) (rest := []) (q0 := 0) (ci := 8) Z ((ct_X8_byteAt l D g τ b m ln p1_46 (nI p1_46) tb TP TX oq1_46 (by exact hln) (by omega)) H.size) hK hT hA G [0, 1, 2] rfl (by decide) rfl rfl gmX8_product_X8_byteAt rfl dvX8_byteAt ⟨by first | decide | (simp only [rm_X8_either, rm_X8_both, rm_X8_compared, rm_X8_sums, rm_X8_product, rm_X8_one]; omega), by first | decide | (simp only [rm_X8_either, rm_X8_both, rm_X8_compared, rm_X8_sums, rm_X8_product, rm_X8_one]; omega)⟩ rfl hl.1 rfl (Nat.le_of_ble_eq_true rfl) dX8_product_87 ⟨Nat.zero_le _, Nat.zero_le _⟩) hA G [0, 1, 2] [3] [1, 2, 3, 0] rfl rfl (by decide) (by decide) (by decide) (fun _ => rfl) (fun r_87 _ H locs w_87 G => ?_)
                obtain rfl : r_87 = nI (zg_c (zm_tx tb TP TX) ln p1_46) := w_87
                refine lv_istore_n (lv' := [(2, .int (nI (zg_c (zm_tx tb TP TX) ln p1_46))), (1, .int (v / r_46)), (3, .int r_46), (0, .ref (b 100))]) Z.1 Z.2.1 dX8_product_90 rfl hl (by decide) rfl (fun ls hl => ?_)
                refine lv_goto (tgt := 10) Z.1 Z.2.1 dX8_product_91 (by decide) ?_
                refine lv_aload_n Z.1 Z.2.1 dX8_product_10 rfl (lv_at hl 3 rfl) ?_
                refine zk_get (C := RX8) (T := TX8) (N := 48) (ci := 8) Z hK G hinX8 0 rfl rfl 15 (by decide) (List.mem_cons_of_mem _ wa8_105) rfl (v := .int (nI p1_46)) rfl dX8_product_11 ?_
                refine lv_if_ge (tgt := 94) Z.1 Z.2.1 dX8_product_14 (by decide) (fun c14 => ?_) (fun c14 => ?_)
                · have c14 : 0 ≤ p1_46 := zk_le (by omega) (by omega) c14
                  refine lv_iload_n Z.1 Z.2.1 dX8_product_94 rfl (lv_at hl 1 rfl) ?_
                  exact zk_reti Z hR_ hlk hK hQ G (p1_46, nI p1_46, oq1_46) (by rw [← hs]; simp only [zg_lp]; rw [if_pos hlv, hz_46]; exact ⟨rfl, rfl⟩) rfl dX8_product_95
                exfalso
                have c14 : p1_46 < 0 := zk_nle (by omega) (by omega) c14
                omega
              have c63 : r_46 = 0 := c63
              refine lv_iconst (v := nI 0) Z.1 Z.2.1 dX8_product_66 (by decide +kernel) ?_
              refine lv_goto (tgt := 85) Z.1 Z.2.1 dX8_product_67 (by decide) ?_
              refine lv_istore_n (lv' := [(1, .int (nI 0)), (3, .int r_46), (0, .ref (b 100)), (2, .int (nI (zg_c (zm_tx tb TP TX) ln p2)))]) Z.1 Z.2.1 dX8_product_85 rfl hl (by decide) rfl (fun ls hl => ?_)
              refine lv_aload_n Z.1 Z.2.1 dX8_product_86 rfl (lv_at hl 2 rfl) ?_
              refine zk_ci (WF := fun (_ : Unit) => [(b 100, .inr (8, [.ref (b 0), .ref (b 1), .ref (b 2), .ref (b 3), .int (m 4), .int (m 5), .int (m 6), .int (m 7), .ref (b 8), .int (m 9), .ref (b 10), .int (m 11), .int (zm_bs tb), .int (nI p1_46), .int (nI ln), .int (nI p1_46), .int oq1_46, .ref (b 17), .ref (b 18), .ref (b 19), .ref (b 20), .ref (b 21), .ref (b 22), .ref (b 23), .ref (b 24), .int (m 25), .int (m 26), .int (m 27), .int (m 28), .ref (b 29), .ref (b 30), .int (m 31), .int (m 32), .int (m 33), .int (m 34), .int (m 35), .ref (b 36), .ref (b 37), .int (m 38), .ref (b 39), .ref (b 40), .int (m 41), .int (m 42), .int (m 43), .ref (b 44), .ref (b 45), .ref (b 46), .ref (b 47)])), (b 8, .inl (g 0, 120, .inl (fun i => nI (TP i)))), (b 10, .inl (g 0, 120, .inl (fun i => nI (TX i)))), (b 17, .inl (g 0, 6, .inl NM))]) (wr := [(b 17, .inl (g 0, 6, .inl NM))]) ⟨rfl, rfl⟩ (zk_rv (As := []) (rest := []) (q0 := 0) (ci := 8) Z ((ct_X8_byteAt l D g τ b m ln p1_46 (nI p1_46) tb TP TX oq1_46 (by exact hln) (by omega)) H.size) hK hT hA G [0, 1, 2] rfl (by decide) rfl rfl gmX8_product_X8_byteAt rfl dvX8_byteAt ⟨by first | decide | (simp only [rm_X8_either, rm_X8_both, rm_X8_compared, rm_X8_sums, rm_X8_product, rm_X8_one]; omega), by first | decide | (simp only [rm_X8_either, rm_X8_both, rm_X8_compared, rm_X8_sums, rm_X8_product, rm_X8_one]; omega)⟩ rfl hl.1 rfl (Nat.le_of_ble_eq_true rfl) dX8_product_87 ⟨Nat.zero_le _, Nat.zero_le _⟩) hA G [0, 1, 2] [3] [1, 2, 3, 0] rfl rfl (by decide) (by decide) (by decide) (fun _ => rfl) (fun r_87 _ H locs w_87 G => ?_)
              obtain rfl : r_87 = nI (zg_c (zm_tx tb TP TX) ln p1_46) := w_87
              refine lv_istore_n (lv' := [(2, .int (nI (zg_c (zm_tx tb TP TX) ln p1_46))), (1, .int (nI 0)), (3, .int r_46), (0, .ref (b 100))]) Z.1 Z.2.1 dX8_product_90 rfl hl (by decide) rfl (fun ls hl => ?_)
              refine lv_goto (tgt := 10) Z.1 Z.2.1 dX8_product_91 (by decide) ?_
              refine lv_aload_n Z.1 Z.2.1 dX8_product_10 rfl (lv_at hl 3 rfl) ?_
              refine zk_get (C := RX8) (T := TX8) (N := 48) (ci := 8) Z hK G hinX8 0 rfl rfl 15 (by decide) (List.mem_cons_of_mem _ wa8_105) rfl (v := .int (nI p1_46)) rfl dX8_product_11 ?_
              refine lv_if_ge (tgt := 94) Z.1 Z.2.1 dX8_product_14 (by decide) (fun c14 => ?_) (fun c14 => ?_)
              · have c14 : 0 ≤ p1_46 := zk_le (by omega) (by omega) c14
                refine lv_iload_n Z.1 Z.2.1 dX8_product_94 rfl (lv_at hl 1 rfl) ?_
                exact zk_reti Z hR_ hlk hK hQ G (p1_46, nI p1_46, oq1_46) (by rw [← hs]; simp only [zg_lp]; rw [if_pos hlv, hz_46]; exact ⟨rfl, rfl⟩) rfl dX8_product_95
              exfalso
              have c14 : p1_46 < 0 := zk_nle (by omega) (by omega) c14
              omega
            exfalso
            have c53 : zg_c (zm_tx tb TP TX) ln p2 = 42 := zk_eq (by omega) (by omega) c53
            omega
          · obtain ⟨h1_46, h2_46, h3_46, h4_46⟩ := zm_pr w_46 hz_46
            obtain rfl : p1_46 = a9 := h1_46
            obtain rfl : ft1_46 = -1 := h2_46
            obtain rfl : oq1_46 = nI (op) := h3_46
            obtain rfl : s9 = r_46 :: (v :: ST) := h4_46
            have hb_46 := zb_46
            rw [hz_46] at hb_46
            have hp_46 : p1_46 ≤ ln := hb_46.2
            have hq_46 : p2 + 1 ≤ p1_46 := hb_46.1
            refine lv_istore_n (lv' := [(3, .int r_46), (0, .ref (b 100)), (1, .int v), (2, .int (nI (zg_c (zm_tx tb TP TX) ln p2)))]) Z.1 Z.2.1 dX8_product_49 rfl hl (by decide) rfl (fun ls hl => ?_)
            refine lv_iload_n Z.1 Z.2.1 dX8_product_50 rfl (lv_at hl 3 rfl) ?_
            refine lv_bipush (v := nI 42) Z.1 Z.2.1 dX8_product_51 (by decide +kernel) ?_
            refine lv_icmp_ne (tgt := 62) Z.1 Z.2.1 dX8_product_53 (by decide) (fun c53 => ?_) (fun c53 => ?_)
            · have c53 : zg_c (zm_tx tb TP TX) ln p2 ≠ 42 := zk_neq (by omega) (by omega) c53
              refine lv_iload_n Z.1 Z.2.1 dX8_product_62 rfl (lv_at hl 0 rfl) ?_
              refine lv_if_ne (tgt := 70) Z.1 Z.2.1 dX8_product_63 (by decide) (fun c63 => ?_) (fun c63 => ?_)
              · have c63 : ¬ r_46 = 0 := c63
                refine lv_iload_n Z.1 Z.2.1 dX8_product_70 rfl (lv_at hl 3 rfl) ?_
                refine lv_bipush (v := nI 47) Z.1 Z.2.1 dX8_product_71 (by decide +kernel) ?_
                refine lv_icmp_ne (tgt := 82) Z.1 Z.2.1 dX8_product_73 (by decide) (fun c73 => ?_) (fun c73 => ?_)
                · exfalso
                  have c73 : zg_c (zm_tx tb TP TX) ln p2 ≠ 47 := zk_neq (by omega) (by omega) c73
                  exact c73 htk
                have c73 : zg_c (zm_tx tb TP TX) ln p2 = 47 := zk_eq (by omega) (by omega) c73
                refine lv_iload_n Z.1 Z.2.1 dX8_product_76 rfl (lv_at hl 2 rfl) ?_
                refine lv_iload_n Z.1 Z.2.1 dX8_product_77 rfl (lv_at hl 0 rfl) ?_
                refine zk_idiv Z dX8_product_78 c63 (z := v / r_46) rfl ?_
                refine lv_goto (tgt := 85) Z.1 Z.2.1 dX8_product_79 (by decide) ?_
                refine lv_istore_n (lv' := [(1, .int (v / r_46)), (3, .int r_46), (0, .ref (b 100)), (2, .int (nI (zg_c (zm_tx tb TP TX) ln p2)))]) Z.1 Z.2.1 dX8_product_85 rfl hl (by decide) rfl (fun ls hl => ?_)
                refine lv_aload_n Z.1 Z.2.1 dX8_product_86 rfl (lv_at hl 2 rfl) ?_
                refine zk_ci (WF := fun (_ : Unit) => [(b 100, .inr (8, [.ref (b 0), .ref (b 1), .ref (b 2), .ref (b 3), .int (m 4), .int (m 5), .int (m 6), .int (m 7), .ref (b 8), .int (m 9), .ref (b 10), .int (m 11), .int (zm_bs tb), .int (nI p1_46), .int (nI ln), .int (-1), .int (nI op), .ref (b 17), .ref (b 18), .ref (b 19), .ref (b 20), .ref (b 21), .ref (b 22), .ref (b 23), .ref (b 24), .int (m 25), .int (m 26), .int (m 27), .int (m 28), .ref (b 29), .ref (b 30), .int (m 31), .int (m 32), .int (m 33), .int (m 34), .int (m 35), .ref (b 36), .ref (b 37), .int (m 38), .ref (b 39), .ref (b 40), .int (m 41), .int (m 42), .int (m 43), .ref (b 44), .ref (b 45), .ref (b 46), .ref (b 47)])), (b 8, .inl (g 0, 120, .inl (fun i => nI (TP i)))), (b 10, .inl (g 0, 120, .inl (fun i => nI (TX i)))), (b 17, .inl (g 0, 6, .inl NM))]) (wr := [(b 17, .inl (g 0, 6, .inl NM))]) ⟨rfl, rfl⟩ (zk_rv (As := []) (rest := []) (q0 := 0) (ci := 8) Z ((ct_X8_byteAt l D g τ b m ln p1_46 (-1) tb TP TX (nI op) (by exact hln) (by omega)) H.size) hK hT hA G [0, 1, 2] rfl (by decide) rfl rfl gmX8_product_X8_byteAt rfl dvX8_byteAt ⟨by first | decide | (simp only [rm_X8_either, rm_X8_both, rm_X8_compared, rm_X8_sums, rm_X8_product, rm_X8_one]; omega), by first | decide | (simp only [rm_X8_either, rm_X8_both, rm_X8_compared, rm_X8_sums, rm_X8_product, rm_X8_one]; omega)⟩ rfl hl.1 rfl (Nat.le_of_ble_eq_true rfl) dX8_product_87 ⟨Nat.zero_le _, Nat.zero_le _⟩) hA G [0, 1, 2] [3] [1, 2, 3, 0] rfl rfl (by decide) (by decide) (by decide) (fun _ => rfl) (fun r_87 _ H locs w_87 G => ?_)
                obtain rfl : r_87 = nI (zg_c (zm_tx tb TP TX) ln p1_46) := w_87
                refine lv_istore_n (lv' := [(2, .int (nI (zg_c (zm_tx tb TP TX) ln p1_46))), (1, .int (v / r_46)), (3, .int r_46), (0, .ref (b 100))]) Z.1 Z.2.1 dX8_product_90 rfl hl (by decide) rfl (fun ls hl => ?_)
                refine lv_goto (tgt := 10) Z.1 Z.2.1 dX8_product_91 (by decide) ?_
                exact ih10 (v / r_46) p1_46 f9 (by omega) (by omega) (by exact hp_46) (by simp only [zg_lp] at hs; rw [if_pos hlv, hz_46] at hs; try simp only [] at hs; rw [htk] at hs; exact (congrArg (fun z => zg_lp (zm_tx tb TP TX) ln (zm_em NM) (zg (zm_tx tb TP TX) ln (zm_em NM) d 5 op) 4 f9 p1_46 z) (show (v / r_46) :: ST = zm_em NM 47 0 (r_46 :: v :: ST) from congrArg (· :: ST) (by simp [zl_op, c63]))).trans hs) _ _ _ G (lv_sub hl [3, 1, 0] rfl)
              have c63 : r_46 = 0 := c63
              refine lv_iconst (v := nI 0) Z.1 Z.2.1 dX8_product_66 (by decide +kernel) ?_
              refine lv_goto (tgt := 85) Z.1 Z.2.1 dX8_product_67 (by decide) ?_
              refine lv_istore_n (lv' := [(1, .int (nI 0)), (3, .int r_46), (0, .ref (b 100)), (2, .int (nI (zg_c (zm_tx tb TP TX) ln p2)))]) Z.1 Z.2.1 dX8_product_85 rfl hl (by decide) rfl (fun ls hl => ?_)
              refine lv_aload_n Z.1 Z.2.1 dX8_product_86 rfl (lv_at hl 2 rfl) ?_
              refine zk_ci (WF := fun (_ : Unit) => [(b 100, .inr (8, [.ref (b 0), .ref (b 1), .ref (b 2), .ref (b 3), .int (m 4), .int (m 5), .int (m 6), .int (m 7), .ref (b 8), .int (m 9), .ref (b 10), .int (m 11), .int (zm_bs tb), .int (nI p1_46), .int (nI ln), .int (-1), .int (nI op), .ref (b 17), .ref (b 18), .ref (b 19), .ref (b 20), .ref (b 21), .ref (b 22), .ref (b 23), .ref (b 24), .int (m 25), .int (m 26), .int (m 27), .int (m 28), .ref (b 29), .ref (b 30), .int (m 31), .int (m 32), .int (m 33), .int (m 34), .int (m 35), .ref (b 36), .ref (b 37), .int (m 38), .ref (b 39), .ref (b 40), .int (m 41), .int (m 42), .int (m 43), .ref (b 44), .ref (b 45), .ref (b 46), .ref (b 47)])), (b 8, .inl (g 0, 120, .inl (fun i => nI (TP i)))), (b 10, .inl (g 0, 120, .inl (fun i => nI (TX i)))), (b 17, .inl (g 0, 6, .inl NM))]) (wr := [(b 17, .inl (g 0, 6, .inl NM))]) ⟨rfl, rfl⟩ (zk_rv (As := []) (rest := []) (q0 := 0) (ci := 8) Z ((ct_X8_byteAt l D g τ b m ln p1_46 (-1) tb TP TX (nI op) (by exact hln) (by omega)) H.size) hK hT hA G [0, 1, 2] rfl (by decide) rfl rfl gmX8_product_X8_byteAt rfl dvX8_byteAt ⟨by first | decide | (simp only [rm_X8_either, rm_X8_both, rm_X8_compared, rm_X8_sums, rm_X8_product, rm_X8_one]; omega), by first | decide | (simp only [rm_X8_either, rm_X8_both, rm_X8_compared, rm_X8_sums, rm_X8_product, rm_X8_one]; omega)⟩ rfl hl.1 rfl (Nat.le_of_ble_eq_true rfl) dX8_product_87 ⟨Nat.zero_le _, Nat.zero_le _⟩) hA G [0, 1, 2] [3] [1, 2, 3, 0] rfl rfl (by decide) (by decide) (by decide) (fun _ => rfl) (fun r_87 _ H locs w_87 G => ?_)
              obtain rfl : r_87 = nI (zg_c (zm_tx tb TP TX) ln p1_46) := w_87
              refine lv_istore_n (lv' := [(2, .int (nI (zg_c (zm_tx tb TP TX) ln p1_46))), (1, .int (nI 0)), (3, .int r_46), (0, .ref (b 100))]) Z.1 Z.2.1 dX8_product_90 rfl hl (by decide) rfl (fun ls hl => ?_)
              refine lv_goto (tgt := 10) Z.1 Z.2.1 dX8_product_91 (by decide) ?_
              exact ih10 (nI 0) p1_46 f9 (by omega) (by omega) (by exact hp_46) (by simp only [zg_lp] at hs; rw [if_pos hlv, hz_46] at hs; try simp only [] at hs; rw [htk] at hs; exact (congrArg (fun z => zg_lp (zm_tx tb TP TX) ln (zm_em NM) (zg (zm_tx tb TP TX) ln (zm_em NM) d 5 op) 4 f9 p1_46 z) (show (nI 0) :: ST = zm_em NM 47 0 (r_46 :: v :: ST) from congrArg (· :: ST) (by simp [zl_op, c63]))).trans hs) _ _ _ G (lv_sub hl [3, 1, 0] rfl)
            exfalso
            have c53 : zg_c (zm_tx tb TP TX) ln p2 = 42 := zk_eq (by omega) (by omega) c53
            omega
        have c26 : zg_c (zm_tx tb TP TX) ln p2 ≠ 47 := zk_neq (by omega) (by omega) c26
        refine lv_iload_n Z.1 Z.2.1 dX8_product_29 rfl (lv_at hl 2 rfl) ?_
        refine lv_bipush (v := nI 37) Z.1 Z.2.1 dX8_product_30 (by decide +kernel) ?_
        refine lv_icmp_ne (tgt := 94) Z.1 Z.2.1 dX8_product_32 (by decide) (fun c32 => ?_) (fun c32 => ?_)
        · have c32 : zg_c (zm_tx tb TP TX) ln p2 ≠ 37 := zk_neq (by omega) (by omega) c32
          have hst9 : ¬ zg_lev (zg_c (zm_tx tb TP TX) ln p2) = 4 := fun q9 => (zg_lev_4c.mp q9).elim c20 (fun q8 => q8.elim c26 c32)
          refine lv_iload_n Z.1 Z.2.1 dX8_product_94 rfl (lv_at hl 1 rfl) ?_
          exact zk_reti Z hR_ hlk hK hQ G (p2, (-1), nI op) (by rw [← hs, zg_lp_stop hst9]; exact ⟨rfl, rfl, rfl, rfl⟩) rfl dX8_product_95
        have c32 : zg_c (zm_tx tb TP TX) ln p2 = 37 := zk_eq (by omega) (by omega) c32
        have htk : zg_c (zm_tx tb TP TX) ln p2 = 37 := c32
        have hlv : zg_lev (zg_c (zm_tx tb TP TX) ln p2) = 4 := by rw [htk]; rfl
        have hpl : p2 < ln := zg_c_lt (tp := (zm_tx tb TP TX)) (by rw [htk]; decide)
        obtain ⟨f9, rfl⟩ : ∃ f9, f = f9 + 1 := ⟨f - 1, by omega⟩
        refine lv_aload_n Z.1 Z.2.1 dX8_product_35 rfl (lv_at hl 0 rfl) ?_
        refine lv_dup Z.1 Z.2.1 dX8_product_36 rfl ?_
        refine zk_get (C := RX8) (T := TX8) (N := 48) (ci := 8) Z hK G hinX8 0 rfl rfl 13 (by decide) (List.mem_cons_of_mem _ wa8_101) rfl (v := .int (nI p2)) rfl dX8_product_37 ?_
        refine lv_iconst (v := nI 1) Z.1 Z.2.1 dX8_product_40 (by decide +kernel) ?_
        refine zk_iadd Z dX8_product_41 (z := nI (p2 + 1)) (nI_add _ _) ?_
        refine zk_put tyX8 tyX8_ok nmX8 (C := RX8) (T := TX8) (N := 48) (ci := 8) Z hK G hinX8 0 rfl rfl 13 (by decide) (List.mem_cons_of_mem _ wa8_101) rfl rfl rfl rfl (Nat.le_of_ble_eq_true rfl) (ws' := [(b 100, .inr (8, [.ref (b 0), .ref (b 1), .ref (b 2), .ref (b 3), .int (m 4), .int (m 5), .int (m 6), .int (m 7), .ref (b 8), .int (m 9), .ref (b 10), .int (m 11), .int (zm_bs tb), .int (nI (p2 + 1)), .int (nI ln), .int (-1), .int (nI op), .ref (b 17), .ref (b 18), .ref (b 19), .ref (b 20), .ref (b 21), .ref (b 22), .ref (b 23), .ref (b 24), .int (m 25), .int (m 26), .int (m 27), .int (m 28), .ref (b 29), .ref (b 30), .int (m 31), .int (m 32), .int (m 33), .int (m 34), .int (m 35), .ref (b 36), .ref (b 37), .int (m 38), .ref (b 39), .ref (b 40), .int (m 41), .int (m 42), .int (m 43), .ref (b 44), .ref (b 45), .ref (b 46), .ref (b 47)])), (b 8, .inl (g 0, 120, .inl (fun i => nI (TP i)))), (b 10, .inl (g 0, 120, .inl (fun i => nI (TX i)))), (b 17, .inl (g 0, 6, .inl NM))]) rfl dX8_product_42 (fun H locs G => ?_)
        refine lv_aload_n Z.1 Z.2.1 dX8_product_45 rfl (lv_at hl 0 rfl) ?_
        refine zk_ci (WF := fun uu => [(b 100, .inr (8, [.ref (b 0), .ref (b 1), .ref (b 2), .ref (b 3), .int (m 4), .int (m 5), .int (m 6), .int (m 7), .ref (b 8), .int (m 9), .ref (b 10), .int (m 11), .int (zm_bs tb), .int (nI uu.1), .int (nI ln), .int uu.2.1, .int uu.2.2, .ref (b 17), .ref (b 18), .ref (b 19), .ref (b 20), .ref (b 21), .ref (b 22), .ref (b 23), .ref (b 24), .int (m 25), .int (m 26), .int (m 27), .int (m 28), .ref (b 29), .ref (b 30), .int (m 31), .int (m 32), .int (m 33), .int (m 34), .int (m 35), .ref (b 36), .ref (b 37), .int (m 38), .ref (b 39), .ref (b 40), .int (m 41), .int (m 42), .int (m 43), .ref (b 44), .ref (b 45), .ref (b 46), .ref (b 47)])), (b 8, .inl (g 0, 120, .inl (fun i => nI (TP i)))), (b 10, .inl (g 0, 120, .inl (fun i => nI (TX i)))), (b 17, .inl (g 0, 6, .inl NM))]) (wr := []) ⟨rfl, rfl⟩ (zk_rv (As := []) (rest := []) (q0 := 0) (ci := 8) Z ((ih.2.2.2.2.2 b m ln (p2 + 1) op tb TP TX NM (v :: ST) (by exact hln) (by omega) (by exact ht) (by omega) (by omega)) H.size) hK hT hA G [0, 1, 2, 3] rfl (by decide) rfl rfl gmX8_product_X8_one rfl dvX8_one ⟨by first | decide | (simp only [rm_X8_either, rm_X8_both, rm_X8_compared, rm_X8_sums, rm_X8_product, rm_X8_one]; omega), by first | decide | (simp only [rm_X8_either, rm_X8_both, rm_X8_compared, rm_X8_sums, rm_X8_product, rm_X8_one]; omega)⟩ rfl hl.1 rfl (Nat.le_of_ble_eq_true rfl) dX8_product_46 ⟨Nat.zero_le _, Nat.zero_le _⟩) hA G [0, 1, 2, 3] [] [0, 1, 2, 3] rfl rfl (by decide) (by decide) (by decide) (fun _ => rfl) (fun r_46 uu H locs w_46 G => ?_)
        obtain ⟨p1_46, ft1_46, oq1_46⟩ := uu
        have G : zk_G D aA [(b 100, .inr (8, [.ref (b 0), .ref (b 1), .ref (b 2), .ref (b 3), .int (m 4), .int (m 5), .int (m 6), .int (m 7), .ref (b 8), .int (m 9), .ref (b 10), .int (m 11), .int (zm_bs tb), .int (nI p1_46), .int (nI ln), .int ft1_46, .int oq1_46, .ref (b 17), .ref (b 18), .ref (b 19), .ref (b 20), .ref (b 21), .ref (b 22), .ref (b 23), .ref (b 24), .int (m 25), .int (m 26), .int (m 27), .int (m 28), .ref (b 29), .ref (b 30), .int (m 31), .int (m 32), .int (m 33), .int (m 34), .int (m 35), .ref (b 36), .ref (b 37), .int (m 38), .ref (b 39), .ref (b 40), .int (m 41), .int (m 42), .int (m 43), .ref (b 44), .ref (b 45), .ref (b 46), .ref (b 47)])), (b 8, .inl (g 0, 120, .inl (fun i => nI (TP i)))), (b 10, .inl (g 0, 120, .inl (fun i => nI (TX i)))), (b 17, .inl (g 0, 6, .inl NM))] sS H locs := G
        have zb_46 := zg_le (em := zm_em NM) (ln := ln) ht d 5 (op) (p2 + 1) (v :: ST) (by omega) (by omega) (by omega) (by omega)
        rcases hz_46 : zg (zm_tx tb TP TX) ln (zm_em NM) d 5 (op) (p2 + 1) (v :: ST) with e | ⟨a9, s9⟩
        · obtain ⟨h1_46, h2_46⟩ := zm_pl w_46 hz_46
          obtain rfl : p1_46 = e := h1_46
          obtain rfl : ft1_46 = nI p1_46 := h2_46
          have hb_46 := zb_46
          rw [hz_46] at hb_46
          have hp_46 : p1_46 ≤ ln := hb_46.2
          refine lv_istore_n (lv' := [(3, .int r_46), (0, .ref (b 100)), (1, .int v), (2, .int (nI (zg_c (zm_tx tb TP TX) ln p2)))]) Z.1 Z.2.1 dX8_product_49 rfl hl (by decide) rfl (fun ls hl => ?_)
          refine lv_iload_n Z.1 Z.2.1 dX8_product_50 rfl (lv_at hl 3 rfl) ?_
          refine lv_bipush (v := nI 42) Z.1 Z.2.1 dX8_product_51 (by decide +kernel) ?_
          refine lv_icmp_ne (tgt := 62) Z.1 Z.2.1 dX8_product_53 (by decide) (fun c53 => ?_) (fun c53 => ?_)
          · have c53 : zg_c (zm_tx tb TP TX) ln p2 ≠ 42 := zk_neq (by omega) (by omega) c53
            refine lv_iload_n Z.1 Z.2.1 dX8_product_62 rfl (lv_at hl 0 rfl) ?_
            refine lv_if_ne (tgt := 70) Z.1 Z.2.1 dX8_product_63 (by decide) (fun c63 => ?_) (fun c63 => ?_)
            · have c63 : ¬ r_46 = 0 := c63
              refine lv_iload_n Z.1 Z.2.1 dX8_product_70 rfl (lv_at hl 3 rfl) ?_
              refine lv_bipush (v := nI 47) Z.1 Z.2.1 dX8_product_71 (by decide +kernel) ?_
              refine lv_icmp_ne (tgt := 82) Z.1 Z.2.1 dX8_product_73 (by decide) (fun c73 => ?_) (fun c73 => ?_)
              · have c73 : zg_c (zm_tx tb TP TX) ln p2 ≠ 47 := zk_neq (by omega) (by omega) c73
                refine lv_iload_n Z.1 Z.2.1 dX8_product_82 rfl (lv_at hl 2 rfl) ?_
                refine lv_iload_n Z.1 Z.2.1 dX8_product_83 rfl (lv_at hl 0 rfl) ?_
                refine zk_irem Z dX8_product_84 c63 (z := v - v / r_46 * r_46) rfl ?_
                refine lv_istore_n (lv' := [(1, .int (v - v / r_46 * r_46)), (3, .int r_46), (0, .ref (b 100)), (2, .int (nI (zg_c (zm_tx tb TP TX) ln p2)))]) Z.1 Z.2.1 dX8_product_85 rfl hl (by decide) rfl (fun ls hl => ?_)
                refine lv_aload_n Z.1 Z.2.1 dX8_product_86 rfl (lv_at hl 2 rfl) ?_
                refine zk_ci (WF := fun (_ : Unit) => [(b 100, .inr (8, [.ref (b 0), .ref (b 1), .ref (b 2), .ref (b 3), .int (m 4), .int (m 5), .int (m 6), .int (m 7), .ref (b 8), .int (m 9), .ref (b 10), .int (m 11), .int (zm_bs tb), .int (nI p1_46), .int (nI ln), .int (nI p1_46), .int oq1_46, .ref (b 17), .ref (b 18), .ref (b 19), .ref (b 20), .ref (b 21), .ref (b 22), .ref (b 23), .ref (b 24), .int (m 25), .int (m 26), .int (m 27), .int (m 28), .ref (b 29), .ref (b 30), .int (m 31), .int (m 32), .int (m 33), .int (m 34), .int (m 35), .ref (b 36), .ref (b 37), .int (m 38), .ref (b 39), .ref (b 40), .int (m 41), .int (m 42), .int (m 43), .ref (b 44), .ref (b 45), .ref (b 46), .ref (b 47)])), (b 8, .inl (g 0, 120, .inl (fun i => nI (TP i)))), (b 10, .inl (g 0, 120, .inl (fun i => nI (TX i)))), (b 17, .inl (g 0, 6, .inl NM))]) (wr := [(b 17, .inl (g 0, 6, .inl NM))]) ⟨rfl, rfl⟩ (zk_rv (As := []) (rest := []) (q0 := 0) (ci := 8) Z ((ct_X8_byteAt l D g τ b m ln p1_46 (nI p1_46) tb TP TX oq1_46 (by exact hln) (by omega)) H.size) hK hT hA G [0, 1, 2] rfl (by decide) rfl rfl gmX8_product_X8_byteAt rfl dvX8_byteAt ⟨by first | decide | (simp only [rm_X8_either, rm_X8_both, rm_X8_compared, rm_X8_sums, rm_X8_product, rm_X8_one]; omega), by first | decide | (simp only [rm_X8_either, rm_X8_both, rm_X8_compared, rm_X8_sums, rm_X8_product, rm_X8_one]; omega)⟩ rfl hl.1 rfl (Nat.le_of_ble_eq_true rfl) dX8_product_87 ⟨Nat.zero_le _, Nat.zero_le _⟩) hA G [0, 1, 2] [3] [1, 2, 3, 0] rfl rfl (by decide) (by decide) (by decide) (fun _ => rfl) (fun r_87 _ H locs w_87 G => ?_)
                obtain rfl : r_87 = nI (zg_c (zm_tx tb TP TX) ln p1_46) := w_87
                refine lv_istore_n (lv' := [(2, .int (nI (zg_c (zm_tx tb TP TX) ln p1_46))), (1, .int (v - v / r_46 * r_46)), (3, .int r_46), (0, .ref (b 100))]) Z.1 Z.2.1 dX8_product_90 rfl hl (by decide) rfl (fun ls hl => ?_)
                refine lv_goto (tgt := 10) Z.1 Z.2.1 dX8_product_91 (by decide) ?_
                refine lv_aload_n Z.1 Z.2.1 dX8_product_10 rfl (lv_at hl 3 rfl) ?_
                refine zk_get (C := RX8) (T := TX8) (N := 48) (ci := 8) Z hK G hinX8 0 rfl rfl 15 (by decide) (List.mem_cons_of_mem _ wa8_105) rfl (v := .int (nI p1_46)) rfl dX8_product_11 ?_
                refine lv_if_ge (tgt := 94) Z.1 Z.2.1 dX8_product_14 (by decide) (fun c14 => ?_) (fun c14 => ?_)
                · have c14 : 0 ≤ p1_46 := zk_le (by omega) (by omega) c14
                  refine lv_iload_n Z.1 Z.2.1 dX8_product_94 rfl (lv_at hl 1 rfl) ?_
                  exact zk_reti Z hR_ hlk hK hQ G (p1_46, nI p1_46, oq1_46) (by rw [← hs]; simp only [zg_lp]; rw [if_pos hlv, hz_46]; exact ⟨rfl, rfl⟩) rfl dX8_product_95
                exfalso
                have c14 : p1_46 < 0 := zk_nle (by omega) (by omega) c14
                omega
              exfalso
              have c73 : zg_c (zm_tx tb TP TX) ln p2 = 47 := zk_eq (by omega) (by omega) c73
              omega
            have c63 : r_46 = 0 := c63
            refine lv_iconst (v := nI 0) Z.1 Z.2.1 dX8_product_66 (by decide +kernel) ?_
            refine lv_goto (tgt := 85) Z.1 Z.2.1 dX8_product_67 (by decide) ?_
            refine lv_istore_n (lv' := [(1, .int (nI 0)), (3, .int r_46), (0, .ref (b 100)), (2, .int (nI (zg_c (zm_tx tb TP TX) ln p2)))]) Z.1 Z.2.1 dX8_product_85 rfl hl (by decide) rfl (fun ls hl => ?_)
            refine lv_aload_n Z.1 Z.2.1 dX8_product_86 rfl (lv_at hl 2 rfl) ?_
            refine zk_ci (WF := fun (_ : Unit) => [(b 100, .inr (8, [.ref (b 0), .ref (b 1), .ref (b 2), .ref (b 3), .int (m 4), .int (m 5), .int (m 6), .int (m 7), .ref (b 8), .int (m 9), .ref (b 10), .int (m 11), .int (zm_bs tb), .int (nI p1_46), .int (nI ln), .int (nI p1_46), .int oq1_46, .ref (b 17), .ref (b 18), .ref (b 19), .ref (b 20), .ref (b 21), .ref (b 22), .ref (b 23), .ref (b 24), .int (m 25), .int (m 26), .int (m 27), .int (m 28), .ref (b 29), .ref (b 30), .int (m 31), .int (m 32), .int (m 33), .int (m 34), .int (m 35), .ref (b 36), .ref (b 37), .int (m 38), .ref (b 39), .ref (b 40), .int (m 41), .int (m 42), .int (m 43), .ref (b 44), .ref (b 45), .ref (b 46), .ref (b 47)])), (b 8, .inl (g 0, 120, .inl (fun i => nI (TP i)))), (b 10, .inl (g 0, 120, .inl (fun i => nI (TX i)))), (b 17, .inl (g 0, 6, .inl NM))]) (wr := [(b 17, .inl (g 0, 6, .inl NM))]) ⟨rfl, rfl⟩ (zk_rv (As := []) (rest := []) (q0 := 0) (ci := 8) Z ((ct_X8_byteAt l D g τ b m ln p1_46 (nI p1_46) tb TP TX oq1_46 (by exact hln) (by omega)) H.size) hK hT hA G [0, 1, 2] rfl (by decide) rfl rfl gmX8_product_X8_byteAt rfl dvX8_byteAt ⟨by first | decide | (simp only [rm_X8_either, rm_X8_both, rm_X8_compared, rm_X8_sums, rm_X8_product, rm_X8_one]; omega), by first | decide | (simp only [rm_X8_either, rm_X8_both, rm_X8_compared, rm_X8_sums, rm_X8_product, rm_X8_one]; omega)⟩ rfl hl.1 rfl (Nat.le_of_ble_eq_true rfl) dX8_product_87 ⟨Nat.zero_le _, Nat.zero_le _⟩) hA G [0, 1, 2] [3] [1, 2, 3, 0] rfl rfl (by decide) (by decide) (by decide) (fun _ => rfl) (fun r_87 _ H locs w_87 G => ?_)
            obtain rfl : r_87 = nI (zg_c (zm_tx tb TP TX) ln p1_46) := w_87
            refine lv_istore_n (lv' := [(2, .int (nI (zg_c (zm_tx tb TP TX) ln p1_46))), (1, .int (nI 0)), (3, .int r_46), (0, .ref (b 100))]) Z.1 Z.2.1 dX8_product_90 rfl hl (by decide) rfl (fun ls hl => ?_)
            refine lv_goto (tgt := 10) Z.1 Z.2.1 dX8_product_91 (by decide) ?_
            refine lv_aload_n Z.1 Z.2.1 dX8_product_10 rfl (lv_at hl 3 rfl) ?_
            refine zk_get (C := RX8) (T := TX8) (N := 48) (ci := 8) Z hK G hinX8 0 rfl rfl 15 (by decide) (List.mem_cons_of_mem _ wa8_105) rfl (v := .int (nI p1_46)) rfl dX8_product_11 ?_
            refine lv_if_ge (tgt := 94) Z.1 Z.2.1 dX8_product_14 (by decide) (fun c14 => ?_) (fun c14 => ?_)
            · have c14 : 0 ≤ p1_46 := zk_le (by omega) (by omega) c14
              refine lv_iload_n Z.1 Z.2.1 dX8_product_94 rfl (lv_at hl 1 rfl) ?_
              exact zk_reti Z hR_ hlk hK hQ G (p1_46, nI p1_46, oq1_46) (by rw [← hs]; simp only [zg_lp]; rw [if_pos hlv, hz_46]; exact ⟨rfl, rfl⟩) rfl dX8_product_95
            exfalso
            have c14 : p1_46 < 0 := zk_nle (by omega) (by omega) c14
            omega
          exfalso
          have c53 : zg_c (zm_tx tb TP TX) ln p2 = 42 := zk_eq (by omega) (by omega) c53
          omega
        · obtain ⟨h1_46, h2_46, h3_46, h4_46⟩ := zm_pr w_46 hz_46
          obtain rfl : p1_46 = a9 := h1_46
          obtain rfl : ft1_46 = -1 := h2_46
          obtain rfl : oq1_46 = nI (op) := h3_46
          obtain rfl : s9 = r_46 :: (v :: ST) := h4_46
          have hb_46 := zb_46
          rw [hz_46] at hb_46
          have hp_46 : p1_46 ≤ ln := hb_46.2
          have hq_46 : p2 + 1 ≤ p1_46 := hb_46.1
          refine lv_istore_n (lv' := [(3, .int r_46), (0, .ref (b 100)), (1, .int v), (2, .int (nI (zg_c (zm_tx tb TP TX) ln p2)))]) Z.1 Z.2.1 dX8_product_49 rfl hl (by decide) rfl (fun ls hl => ?_)
          refine lv_iload_n Z.1 Z.2.1 dX8_product_50 rfl (lv_at hl 3 rfl) ?_
          refine lv_bipush (v := nI 42) Z.1 Z.2.1 dX8_product_51 (by decide +kernel) ?_
          refine lv_icmp_ne (tgt := 62) Z.1 Z.2.1 dX8_product_53 (by decide) (fun c53 => ?_) (fun c53 => ?_)
          · have c53 : zg_c (zm_tx tb TP TX) ln p2 ≠ 42 := zk_neq (by omega) (by omega) c53
            refine lv_iload_n Z.1 Z.2.1 dX8_product_62 rfl (lv_at hl 0 rfl) ?_
            refine lv_if_ne (tgt := 70) Z.1 Z.2.1 dX8_product_63 (by decide) (fun c63 => ?_) (fun c63 => ?_)
            · have c63 : ¬ r_46 = 0 := c63
              refine lv_iload_n Z.1 Z.2.1 dX8_product_70 rfl (lv_at hl 3 rfl) ?_
              refine lv_bipush (v := nI 47) Z.1 Z.2.1 dX8_product_71 (by decide +kernel) ?_
              refine lv_icmp_ne (tgt := 82) Z.1 Z.2.1 dX8_product_73 (by decide) (fun c73 => ?_) (fun c73 => ?_)
              · have c73 : zg_c (zm_tx tb TP TX) ln p2 ≠ 47 := zk_neq (by omega) (by omega) c73
                refine lv_iload_n Z.1 Z.2.1 dX8_product_82 rfl (lv_at hl 2 rfl) ?_
                refine lv_iload_n Z.1 Z.2.1 dX8_product_83 rfl (lv_at hl 0 rfl) ?_
                refine zk_irem Z dX8_product_84 c63 (z := v - v / r_46 * r_46) rfl ?_
                refine lv_istore_n (lv' := [(1, .int (v - v / r_46 * r_46)), (3, .int r_46), (0, .ref (b 100)), (2, .int (nI (zg_c (zm_tx tb TP TX) ln p2)))]) Z.1 Z.2.1 dX8_product_85 rfl hl (by decide) rfl (fun ls hl => ?_)
                refine lv_aload_n Z.1 Z.2.1 dX8_product_86 rfl (lv_at hl 2 rfl) ?_
                refine zk_ci (WF := fun (_ : Unit) => [(b 100, .inr (8, [.ref (b 0), .ref (b 1), .ref (b 2), .ref (b 3), .int (m 4), .int (m 5), .int (m 6), .int (m 7), .ref (b 8), .int (m 9), .ref (b 10), .int (m 11), .int (zm_bs tb), .int (nI p1_46), .int (nI ln), .int (-1), .int (nI op), .ref (b 17), .ref (b 18), .ref (b 19), .ref (b 20), .ref (b 21), .ref (b 22), .ref (b 23), .ref (b 24), .int (m 25), .int (m 26), .int (m 27), .int (m 28), .ref (b 29), .ref (b 30), .int (m 31), .int (m 32), .int (m 33), .int (m 34), .int (m 35), .ref (b 36), .ref (b 37), .int (m 38), .ref (b 39), .ref (b 40), .int (m 41), .int (m 42), .int (m 43), .ref (b 44), .ref (b 45), .ref (b 46), .ref (b 47)])), (b 8, .inl (g 0, 120, .inl (fun i => nI (TP i)))), (b 10, .inl (g 0, 120, .inl (fun i => nI (TX i)))), (b 17, .inl (g 0, 6, .inl NM))]) (wr := [(b 17, .inl (g 0, 6, .inl NM))]) ⟨rfl, rfl⟩ (zk_rv (As := []) (rest := []) (q0 := 0) (ci := 8) Z ((ct_X8_byteAt l D g τ b m ln p1_46 (-1) tb TP TX (nI op) (by exact hln) (by omega)) H.size) hK hT hA G [0, 1, 2] rfl (by decide) rfl rfl gmX8_product_X8_byteAt rfl dvX8_byteAt ⟨by first | decide | (simp only [rm_X8_either, rm_X8_both, rm_X8_compared, rm_X8_sums, rm_X8_product, rm_X8_one]; omega), by first | decide | (simp only [rm_X8_either, rm_X8_both, rm_X8_compared, rm_X8_sums, rm_X8_product, rm_X8_one]; omega)⟩ rfl hl.1 rfl (Nat.le_of_ble_eq_true rfl) dX8_product_87 ⟨Nat.zero_le _, Nat.zero_le _⟩) hA G [0, 1, 2] [3] [1, 2, 3, 0] rfl rfl (by decide) (by decide) (by decide) (fun _ => rfl) (fun r_87 _ H locs w_87 G => ?_)
                obtain rfl : r_87 = nI (zg_c (zm_tx tb TP TX) ln p1_46) := w_87
                refine lv_istore_n (lv' := [(2, .int (nI (zg_c (zm_tx tb TP TX) ln p1_46))), (1, .int (v - v / r_46 * r_46)), (3, .int r_46), (0, .ref (b 100))]) Z.1 Z.2.1 dX8_product_90 rfl hl (by decide) rfl (fun ls hl => ?_)
                refine lv_goto (tgt := 10) Z.1 Z.2.1 dX8_product_91 (by decide) ?_
                exact ih10 (v - v / r_46 * r_46) p1_46 f9 (by omega) (by omega) (by exact hp_46) (by simp only [zg_lp] at hs; rw [if_pos hlv, hz_46] at hs; try simp only [] at hs; rw [htk] at hs; exact (congrArg (fun z => zg_lp (zm_tx tb TP TX) ln (zm_em NM) (zg (zm_tx tb TP TX) ln (zm_em NM) d 5 op) 4 f9 p1_46 z) (show (v - v / r_46 * r_46) :: ST = zm_em NM 37 0 (r_46 :: v :: ST) from congrArg (· :: ST) (by simp [zl_op, c63]))).trans hs) _ _ _ G (lv_sub hl [3, 1, 0] rfl)
              exfalso
              have c73 : zg_c (zm_tx tb TP TX) ln p2 = 47 := zk_eq (by omega) (by omega) c73
              omega
            have c63 : r_46 = 0 := c63
            refine lv_iconst (v := nI 0) Z.1 Z.2.1 dX8_product_66 (by decide +kernel) ?_
            refine lv_goto (tgt := 85) Z.1 Z.2.1 dX8_product_67 (by decide) ?_
            refine lv_istore_n (lv' := [(1, .int (nI 0)), (3, .int r_46), (0, .ref (b 100)), (2, .int (nI (zg_c (zm_tx tb TP TX) ln p2)))]) Z.1 Z.2.1 dX8_product_85 rfl hl (by decide) rfl (fun ls hl => ?_)
            refine lv_aload_n Z.1 Z.2.1 dX8_product_86 rfl (lv_at hl 2 rfl) ?_
            refine zk_ci (WF := fun (_ : Unit) => [(b 100, .inr (8, [.ref (b 0), .ref (b 1), .ref (b 2), .ref (b 3), .int (m 4), .int (m 5), .int (m 6), .int (m 7), .ref (b 8), .int (m 9), .ref (b 10), .int (m 11), .int (zm_bs tb), .int (nI p1_46), .int (nI ln), .int (-1), .int (nI op), .ref (b 17), .ref (b 18), .ref (b 19), .ref (b 20), .ref (b 21), .ref (b 22), .ref (b 23), .ref (b 24), .int (m 25), .int (m 26), .int (m 27), .int (m 28), .ref (b 29), .ref (b 30), .int (m 31), .int (m 32), .int (m 33), .int (m 34), .int (m 35), .ref (b 36), .ref (b 37), .int (m 38), .ref (b 39), .ref (b 40), .int (m 41), .int (m 42), .int (m 43), .ref (b 44), .ref (b 45), .ref (b 46), .ref (b 47)])), (b 8, .inl (g 0, 120, .inl (fun i => nI (TP i)))), (b 10, .inl (g 0, 120, .inl (fun i => nI (TX i)))), (b 17, .inl (g 0, 6, .inl NM))]) (wr := [(b 17, .inl (g 0, 6, .inl NM))]) ⟨rfl, rfl⟩ (zk_rv (As := []) (rest := []) (q0 := 0) (ci := 8) Z ((ct_X8_byteAt l D g τ b m ln p1_46 (-1) tb TP TX (nI op) (by exact hln) (by omega)) H.size) hK hT hA G [0, 1, 2] rfl (by decide) rfl rfl gmX8_product_X8_byteAt rfl dvX8_byteAt ⟨by first | decide | (simp only [rm_X8_either, rm_X8_both, rm_X8_compared, rm_X8_sums, rm_X8_product, rm_X8_one]; omega), by first | decide | (simp only [rm_X8_either, rm_X8_both, rm_X8_compared, rm_X8_sums, rm_X8_product, rm_X8_one]; omega)⟩ rfl hl.1 rfl (Nat.le_of_ble_eq_true rfl) dX8_product_87 ⟨Nat.zero_le _, Nat.zero_le _⟩) hA G [0, 1, 2] [3] [1, 2, 3, 0] rfl rfl (by decide) (by decide) (by decide) (fun _ => rfl) (fun r_87 _ H locs w_87 G => ?_)
            obtain rfl : r_87 = nI (zg_c (zm_tx tb TP TX) ln p1_46) := w_87
            refine lv_istore_n (lv' := [(2, .int (nI (zg_c (zm_tx tb TP TX) ln p1_46))), (1, .int (nI 0)), (3, .int r_46), (0, .ref (b 100))]) Z.1 Z.2.1 dX8_product_90 rfl hl (by decide) rfl (fun ls hl => ?_)
            refine lv_goto (tgt := 10) Z.1 Z.2.1 dX8_product_91 (by decide) ?_
            exact ih10 (nI 0) p1_46 f9 (by omega) (by omega) (by exact hp_46) (by simp only [zg_lp] at hs; rw [if_pos hlv, hz_46] at hs; try simp only [] at hs; rw [htk] at hs; exact (congrArg (fun z => zg_lp (zm_tx tb TP TX) ln (zm_em NM) (zg (zm_tx tb TP TX) ln (zm_em NM) d 5 op) 4 f9 p1_46 z) (show (nI 0) :: ST = zm_em NM 37 0 (r_46 :: v :: ST) from congrArg (· :: ST) (by simp [zl_op, c63]))).trans hs) _ _ _ G (lv_sub hl [3, 1, 0] rfl)
          exfalso
          have c53 : zg_c (zm_tx tb TP TX) ln p2 = 42 := zk_eq (by omega) (by omega) c53
          omega
    exact L10 _ r_1 p1_1 120 (Nat.lt_succ_self _) (by omega) (by exact hp_1) (by exact hV) _ _ _ G (lv_sub hl [2, 1, 0] rfl)

theorem gmX8_compared_X8_sums : GoodIn wmX8_compared (wsV RX8 189 RX8 yX8_sums wmX8_sums) := goodIn_app (wa8_w (List.forall_mem_cons.mpr ⟨wa8_122, List.forall_mem_cons.mpr ⟨wa8_123, List.forall_mem_cons.mpr ⟨wa8_124, List.forall_mem_cons.mpr ⟨wa8_43, fun _ h => absurd h List.not_mem_nil⟩⟩⟩⟩)) (wa8_sub wa8_140)
theorem gmX8_compared_X8_byteAt : GoodIn wmX8_compared (wsV RX8 176 RX8 yX8_byteAt wmX8_byteAt) := goodIn_app (wa8_w (List.forall_mem_cons.mpr ⟨wa8_107, List.forall_mem_cons.mpr ⟨wa8_108, List.forall_mem_cons.mpr ⟨wa8_109, List.forall_mem_cons.mpr ⟨wa8_43, fun _ h => absurd h List.not_mem_nil⟩⟩⟩⟩)) (wa8_sub wa8_100)
set_option maxRecDepth 100000 in
set_option maxHeartbeats 2000000 in
theorem ct_X8_compared_s (l : Launch) (D : va_G) (g : Nat → ClassId) (τ : Nat → Nat) (d : Nat) (ih : zm_L0 l D g τ d ∧ zm_L1 l D g τ d ∧ zm_L2 l D g τ d ∧ zm_L3 l D g τ d ∧ zm_L4 l D g τ d ∧ zm_L5 l D g τ d) : zm_L2 l D g τ (d + 1) := by
  intro b m ln p op tb TP TX NM ST hln hp ht hop hd
  refine zk_of (av := [.ref (b 100)]) (W0 := [(b 100, .inr (8, [.ref (b 0), .ref (b 1), .ref (b 2), .ref (b 3), .int (m 4), .int (m 5), .int (m 6), .int (m 7), .ref (b 8), .int (m 9), .ref (b 10), .int (m 11), .int (zm_bs tb), .int (nI p), .int (nI ln), .int (-1), .int (nI op), .ref (b 17), .ref (b 18), .ref (b 19), .ref (b 20), .ref (b 21), .ref (b 22), .ref (b 23), .ref (b 24), .int (m 25), .int (m 26), .int (m 27), .int (m 28), .ref (b 29), .ref (b 30), .int (m 31), .int (m 32), .int (m 33), .int (m 34), .int (m 35), .ref (b 36), .ref (b 37), .int (m 38), .ref (b 39), .ref (b 40), .int (m 41), .int (m 42), .int (m 43), .ref (b 44), .ref (b 45), .ref (b 46), .ref (b 47)])), (b 8, .inl (g 0, 120, .inl (fun i => nI (TP i)))), (b 10, .inl (g 0, 120, .inl (fun i => nI (TX i)))), (b 17, .inl (g 0, 6, .inl NM))]) (y := yX8_compared) (wd := wmX8_compared) (Qc := fun A => va_Qi (fun (r : Int32) (uu : Nat × Int32 × Int32) => zm_post (zg (zm_tx tb TP TX) ln (zm_em NM) (d + 1) 2 op p ST) r uu.1 uu.2.1 op uu.2.2 ST) (zk_B D g A (fun (uu : Nat × Int32 × Int32) => [(b 100, .inr (8, [.ref (b 0), .ref (b 1), .ref (b 2), .ref (b 3), .int (m 4), .int (m 5), .int (m 6), .int (m 7), .ref (b 8), .int (m 9), .ref (b 10), .int (m 11), .int (zm_bs tb), .int (nI uu.1), .int (nI ln), .int uu.2.1, .int uu.2.2, .ref (b 17), .ref (b 18), .ref (b 19), .ref (b 20), .ref (b 21), .ref (b 22), .ref (b 23), .ref (b 24), .int (m 25), .int (m 26), .int (m 27), .int (m 28), .ref (b 29), .ref (b 30), .int (m 31), .int (m 32), .int (m 33), .int (m 34), .int (m 35), .ref (b 36), .ref (b 37), .int (m 38), .ref (b 39), .ref (b 40), .int (m 41), .int (m 42), .int (m 43), .ref (b 44), .ref (b 45), .ref (b 46), .ref (b 47)])), (b 8, .inl (g 0, 120, .inl (fun i => nI (TP i)))), (b 10, .inl (g 0, 120, .inl (fun i => nI (TX i)))), (b 17, .inl (g 0, 6, .inl NM))])) A) (cc := cX8_compared) (maxL := 4) (ret := (some .int)) (own := RX8) (by decide) rfl rfl (Nat.le_of_ble_eq_true rfl) ?_
  intro pP eE sS mM args below meth cC aA ls qQ Z hR_ hlk hnm hK hT hA hQ G hl
  have hinX8 : ∀ w ∈ u_ws RX8 TX8 48, w ∈ wmX8_compared := wa8_in
  refine lv_aload_n Z.1 Z.2.1 dX8_compared_0 rfl (lv_at hl 0 rfl) ?_
  refine zk_ci (WF := fun uu => [(b 100, .inr (8, [.ref (b 0), .ref (b 1), .ref (b 2), .ref (b 3), .int (m 4), .int (m 5), .int (m 6), .int (m 7), .ref (b 8), .int (m 9), .ref (b 10), .int (m 11), .int (zm_bs tb), .int (nI uu.1), .int (nI ln), .int uu.2.1, .int uu.2.2, .ref (b 17), .ref (b 18), .ref (b 19), .ref (b 20), .ref (b 21), .ref (b 22), .ref (b 23), .ref (b 24), .int (m 25), .int (m 26), .int (m 27), .int (m 28), .ref (b 29), .ref (b 30), .int (m 31), .int (m 32), .int (m 33), .int (m 34), .int (m 35), .ref (b 36), .ref (b 37), .int (m 38), .ref (b 39), .ref (b 40), .int (m 41), .int (m 42), .int (m 43), .ref (b 44), .ref (b 45), .ref (b 46), .ref (b 47)])), (b 8, .inl (g 0, 120, .inl (fun i => nI (TP i)))), (b 10, .inl (g 0, 120, .inl (fun i => nI (TX i)))), (b 17, .inl (g 0, 6, .inl NM))]) (wr := []) ⟨rfl, rfl⟩ (zk_rv (As := []) (rest := []) (q0 := 0) (ci := 8) Z ((ih.2.2.2.1 b m ln p op tb TP TX NM ST (by exact hln) (by exact hp) (by exact ht) (by omega) (by omega)) sS.heap.size) hK hT hA G [0, 1, 2, 3] rfl (by decide) rfl rfl gmX8_compared_X8_sums rfl dvX8_sums ⟨by first | decide | (simp only [rm_X8_either, rm_X8_both, rm_X8_compared, rm_X8_sums, rm_X8_product, rm_X8_one]; omega), by first | decide | (simp only [rm_X8_either, rm_X8_both, rm_X8_compared, rm_X8_sums, rm_X8_product, rm_X8_one]; omega)⟩ rfl hl.1 rfl (Nat.le_of_ble_eq_true rfl) dX8_compared_1 ⟨Nat.zero_le _, Nat.zero_le _⟩) hA G [0, 1, 2, 3] [] [0, 1, 2, 3] rfl rfl (by decide) (by decide) (by decide) (fun _ => rfl) (fun r_1 uu H locs w_1 G => ?_)
  obtain ⟨p1_1, ft1_1, oq1_1⟩ := uu
  have G : zk_G D aA [(b 100, .inr (8, [.ref (b 0), .ref (b 1), .ref (b 2), .ref (b 3), .int (m 4), .int (m 5), .int (m 6), .int (m 7), .ref (b 8), .int (m 9), .ref (b 10), .int (m 11), .int (zm_bs tb), .int (nI p1_1), .int (nI ln), .int ft1_1, .int oq1_1, .ref (b 17), .ref (b 18), .ref (b 19), .ref (b 20), .ref (b 21), .ref (b 22), .ref (b 23), .ref (b 24), .int (m 25), .int (m 26), .int (m 27), .int (m 28), .ref (b 29), .ref (b 30), .int (m 31), .int (m 32), .int (m 33), .int (m 34), .int (m 35), .ref (b 36), .ref (b 37), .int (m 38), .ref (b 39), .ref (b 40), .int (m 41), .int (m 42), .int (m 43), .ref (b 44), .ref (b 45), .ref (b 46), .ref (b 47)])), (b 8, .inl (g 0, 120, .inl (fun i => nI (TP i)))), (b 10, .inl (g 0, 120, .inl (fun i => nI (TX i)))), (b 17, .inl (g 0, 6, .inl NM))] sS H locs := G
  have zb_1 := zg_le (em := zm_em NM) (ln := ln) ht d 3 (op) (p) (ST) (by omega) (by omega) (by omega) (by omega)
  rcases hz_1 : zg (zm_tx tb TP TX) ln (zm_em NM) d 3 (op) (p) (ST) with e | ⟨a9, s9⟩
  · obtain ⟨h1_1, h2_1⟩ := zm_pl w_1 hz_1
    obtain rfl : p1_1 = e := h1_1
    obtain rfl : ft1_1 = nI p1_1 := h2_1
    have hb_1 := zb_1
    rw [hz_1] at hb_1
    have hp_1 : p1_1 ≤ ln := hb_1.2
    refine lv_istore_n (lv' := [(1, .int r_1), (0, .ref (b 100))]) Z.1 Z.2.1 dX8_compared_4 rfl hl (by decide) rfl (fun ls hl => ?_)
    refine lv_aload_n Z.1 Z.2.1 dX8_compared_5 rfl (lv_at hl 1 rfl) ?_
    refine zk_ci (WF := fun (_ : Unit) => [(b 100, .inr (8, [.ref (b 0), .ref (b 1), .ref (b 2), .ref (b 3), .int (m 4), .int (m 5), .int (m 6), .int (m 7), .ref (b 8), .int (m 9), .ref (b 10), .int (m 11), .int (zm_bs tb), .int (nI p1_1), .int (nI ln), .int (nI p1_1), .int oq1_1, .ref (b 17), .ref (b 18), .ref (b 19), .ref (b 20), .ref (b 21), .ref (b 22), .ref (b 23), .ref (b 24), .int (m 25), .int (m 26), .int (m 27), .int (m 28), .ref (b 29), .ref (b 30), .int (m 31), .int (m 32), .int (m 33), .int (m 34), .int (m 35), .ref (b 36), .ref (b 37), .int (m 38), .ref (b 39), .ref (b 40), .int (m 41), .int (m 42), .int (m 43), .ref (b 44), .ref (b 45), .ref (b 46), .ref (b 47)])), (b 8, .inl (g 0, 120, .inl (fun i => nI (TP i)))), (b 10, .inl (g 0, 120, .inl (fun i => nI (TX i)))), (b 17, .inl (g 0, 6, .inl NM))]) (wr := [(b 17, .inl (g 0, 6, .inl NM))]) ⟨rfl, rfl⟩ (zk_rv (As := []) (rest := []) (q0 := 0) (ci := 8) Z ((ct_X8_byteAt l D g τ b m ln p1_1 (nI p1_1) tb TP TX oq1_1 (by exact hln) (by omega)) H.size) hK hT hA G [0, 1, 2] rfl (by decide) rfl rfl gmX8_compared_X8_byteAt rfl dvX8_byteAt ⟨by first | decide | (simp only [rm_X8_either, rm_X8_both, rm_X8_compared, rm_X8_sums, rm_X8_product, rm_X8_one]; omega), by first | decide | (simp only [rm_X8_either, rm_X8_both, rm_X8_compared, rm_X8_sums, rm_X8_product, rm_X8_one]; omega)⟩ rfl hl.1 rfl (Nat.le_of_ble_eq_true rfl) dX8_compared_6 ⟨Nat.zero_le _, Nat.zero_le _⟩) hA G [0, 1, 2] [3] [1, 2, 3, 0] rfl rfl (by decide) (by decide) (by decide) (fun _ => rfl) (fun r_6 _ H locs w_6 G => ?_)
    obtain rfl : r_6 = nI (zg_c (zm_tx tb TP TX) ln p1_1) := w_6
    have hcb := zg_c_256 (ln := ln) ht p1_1
    refine lv_istore_n (lv' := [(2, .int (nI (zg_c (zm_tx tb TP TX) ln p1_1))), (1, .int r_1), (0, .ref (b 100))]) Z.1 Z.2.1 dX8_compared_9 rfl hl (by decide) rfl (fun ls hl => ?_)
    refine lv_aload_n Z.1 Z.2.1 dX8_compared_10 rfl (lv_at hl 2 rfl) ?_
    refine zk_get (C := RX8) (T := TX8) (N := 48) (ci := 8) Z hK G hinX8 0 rfl rfl 15 (by decide) (List.mem_cons_of_mem _ wa8_105) rfl (v := .int (nI p1_1)) rfl dX8_compared_11 ?_
    refine lv_if_ge (tgt := 35) Z.1 Z.2.1 dX8_compared_14 (by decide) (fun c14 => ?_) (fun c14 => ?_)
    · have c14 : 0 ≤ p1_1 := zk_le (by omega) (by omega) c14
      refine lv_iload_n Z.1 Z.2.1 dX8_compared_35 rfl (lv_at hl 1 rfl) ?_
      exact zk_reti Z hR_ hlk hK hQ G (p1_1, nI p1_1, oq1_1) (by simp only [zg]; rw [if_pos (by decide), hz_1]; exact ⟨rfl, rfl⟩) rfl dX8_compared_36
    exfalso
    have c14 : p1_1 < 0 := zk_nle (by omega) (by omega) c14
    omega
  · obtain ⟨h1_1, h2_1, h3_1, h4_1⟩ := zm_pr w_1 hz_1
    obtain rfl : p1_1 = a9 := h1_1
    obtain rfl : ft1_1 = -1 := h2_1
    obtain rfl : oq1_1 = nI (op) := h3_1
    obtain rfl : s9 = r_1 :: ST := h4_1
    have hb_1 := zb_1
    rw [hz_1] at hb_1
    have hp_1 : p1_1 ≤ ln := hb_1.2
    have hq_1 : p ≤ p1_1 := hb_1.1
    refine lv_istore_n (lv' := [(1, .int r_1), (0, .ref (b 100))]) Z.1 Z.2.1 dX8_compared_4 rfl hl (by decide) rfl (fun ls hl => ?_)
    refine lv_aload_n Z.1 Z.2.1 dX8_compared_5 rfl (lv_at hl 1 rfl) ?_
    refine zk_ci (WF := fun (_ : Unit) => [(b 100, .inr (8, [.ref (b 0), .ref (b 1), .ref (b 2), .ref (b 3), .int (m 4), .int (m 5), .int (m 6), .int (m 7), .ref (b 8), .int (m 9), .ref (b 10), .int (m 11), .int (zm_bs tb), .int (nI p1_1), .int (nI ln), .int (-1), .int (nI op), .ref (b 17), .ref (b 18), .ref (b 19), .ref (b 20), .ref (b 21), .ref (b 22), .ref (b 23), .ref (b 24), .int (m 25), .int (m 26), .int (m 27), .int (m 28), .ref (b 29), .ref (b 30), .int (m 31), .int (m 32), .int (m 33), .int (m 34), .int (m 35), .ref (b 36), .ref (b 37), .int (m 38), .ref (b 39), .ref (b 40), .int (m 41), .int (m 42), .int (m 43), .ref (b 44), .ref (b 45), .ref (b 46), .ref (b 47)])), (b 8, .inl (g 0, 120, .inl (fun i => nI (TP i)))), (b 10, .inl (g 0, 120, .inl (fun i => nI (TX i)))), (b 17, .inl (g 0, 6, .inl NM))]) (wr := [(b 17, .inl (g 0, 6, .inl NM))]) ⟨rfl, rfl⟩ (zk_rv (As := []) (rest := []) (q0 := 0) (ci := 8) Z ((ct_X8_byteAt l D g τ b m ln p1_1 (-1) tb TP TX (nI op) (by exact hln) (by omega)) H.size) hK hT hA G [0, 1, 2] rfl (by decide) rfl rfl gmX8_compared_X8_byteAt rfl dvX8_byteAt ⟨by first | decide | (simp only [rm_X8_either, rm_X8_both, rm_X8_compared, rm_X8_sums, rm_X8_product, rm_X8_one]; omega), by first | decide | (simp only [rm_X8_either, rm_X8_both, rm_X8_compared, rm_X8_sums, rm_X8_product, rm_X8_one]; omega)⟩ rfl hl.1 rfl (Nat.le_of_ble_eq_true rfl) dX8_compared_6 ⟨Nat.zero_le _, Nat.zero_le _⟩) hA G [0, 1, 2] [3] [1, 2, 3, 0] rfl rfl (by decide) (by decide) (by decide) (fun _ => rfl) (fun r_6 _ H locs w_6 G => ?_)
    obtain rfl : r_6 = nI (zg_c (zm_tx tb TP TX) ln p1_1) := w_6
    have hcb := zg_c_256 (ln := ln) ht p1_1
    refine lv_istore_n (lv' := [(2, .int (nI (zg_c (zm_tx tb TP TX) ln p1_1))), (1, .int r_1), (0, .ref (b 100))]) Z.1 Z.2.1 dX8_compared_9 rfl hl (by decide) rfl (fun ls hl => ?_)
    refine lv_aload_n Z.1 Z.2.1 dX8_compared_10 rfl (lv_at hl 2 rfl) ?_
    refine zk_get (C := RX8) (T := TX8) (N := 48) (ci := 8) Z hK G hinX8 0 rfl rfl 15 (by decide) (List.mem_cons_of_mem _ wa8_105) rfl (v := .int (-1)) rfl dX8_compared_11 ?_
    refine lv_if_ge (tgt := 35) Z.1 Z.2.1 dX8_compared_14 (by decide) (fun c14 => ?_) (fun c14 => ?_)
    · exfalso
      have c14 : 0 ≤ ((-1) : Int32) := c14
      exact absurd c14 (by decide)
    have c14 : ¬ 0 ≤ ((-1) : Int32) := c14
    refine lv_iload_n Z.1 Z.2.1 dX8_compared_17 rfl (lv_at hl 0 rfl) ?_
    refine lv_bipush (v := nI 60) Z.1 Z.2.1 dX8_compared_18 (by decide +kernel) ?_
    refine lv_icmp_eq (tgt := 37) Z.1 Z.2.1 dX8_compared_20 (by decide) (fun c20 => ?_) (fun c20 => ?_)
    · have c20 : zg_c (zm_tx tb TP TX) ln p1_1 = 60 := zk_eq (by omega) (by omega) c20
      have htk : zg_c (zm_tx tb TP TX) ln p1_1 = 60 := c20
      have hlv : zg_lev (zg_c (zm_tx tb TP TX) ln p1_1) = 2 := by rw [htk]; rfl
      have hpl : p1_1 < ln := zg_c_lt (tp := (zm_tx tb TP TX)) (by rw [htk]; decide)
      refine lv_aload_n Z.1 Z.2.1 dX8_compared_37 rfl (lv_at hl 2 rfl) ?_
      refine lv_dup Z.1 Z.2.1 dX8_compared_38 rfl ?_
      refine zk_get (C := RX8) (T := TX8) (N := 48) (ci := 8) Z hK G hinX8 0 rfl rfl 13 (by decide) (List.mem_cons_of_mem _ wa8_101) rfl (v := .int (nI p1_1)) rfl dX8_compared_39 ?_
      refine lv_iconst (v := nI 1) Z.1 Z.2.1 dX8_compared_42 (by decide +kernel) ?_
      refine zk_iadd Z dX8_compared_43 (z := nI (p1_1 + 1)) (nI_add _ _) ?_
      refine zk_put tyX8 tyX8_ok nmX8 (C := RX8) (T := TX8) (N := 48) (ci := 8) Z hK G hinX8 0 rfl rfl 13 (by decide) (List.mem_cons_of_mem _ wa8_101) rfl rfl rfl rfl (Nat.le_of_ble_eq_true rfl) (ws' := [(b 100, .inr (8, [.ref (b 0), .ref (b 1), .ref (b 2), .ref (b 3), .int (m 4), .int (m 5), .int (m 6), .int (m 7), .ref (b 8), .int (m 9), .ref (b 10), .int (m 11), .int (zm_bs tb), .int (nI (p1_1 + 1)), .int (nI ln), .int (-1), .int (nI op), .ref (b 17), .ref (b 18), .ref (b 19), .ref (b 20), .ref (b 21), .ref (b 22), .ref (b 23), .ref (b 24), .int (m 25), .int (m 26), .int (m 27), .int (m 28), .ref (b 29), .ref (b 30), .int (m 31), .int (m 32), .int (m 33), .int (m 34), .int (m 35), .ref (b 36), .ref (b 37), .int (m 38), .ref (b 39), .ref (b 40), .int (m 41), .int (m 42), .int (m 43), .ref (b 44), .ref (b 45), .ref (b 46), .ref (b 47)])), (b 8, .inl (g 0, 120, .inl (fun i => nI (TP i)))), (b 10, .inl (g 0, 120, .inl (fun i => nI (TX i)))), (b 17, .inl (g 0, 6, .inl NM))]) rfl dX8_compared_44 (fun H locs G => ?_)
      refine lv_aload_n Z.1 Z.2.1 dX8_compared_47 rfl (lv_at hl 2 rfl) ?_
      refine zk_ci (WF := fun uu => [(b 100, .inr (8, [.ref (b 0), .ref (b 1), .ref (b 2), .ref (b 3), .int (m 4), .int (m 5), .int (m 6), .int (m 7), .ref (b 8), .int (m 9), .ref (b 10), .int (m 11), .int (zm_bs tb), .int (nI uu.1), .int (nI ln), .int uu.2.1, .int uu.2.2, .ref (b 17), .ref (b 18), .ref (b 19), .ref (b 20), .ref (b 21), .ref (b 22), .ref (b 23), .ref (b 24), .int (m 25), .int (m 26), .int (m 27), .int (m 28), .ref (b 29), .ref (b 30), .int (m 31), .int (m 32), .int (m 33), .int (m 34), .int (m 35), .ref (b 36), .ref (b 37), .int (m 38), .ref (b 39), .ref (b 40), .int (m 41), .int (m 42), .int (m 43), .ref (b 44), .ref (b 45), .ref (b 46), .ref (b 47)])), (b 8, .inl (g 0, 120, .inl (fun i => nI (TP i)))), (b 10, .inl (g 0, 120, .inl (fun i => nI (TX i)))), (b 17, .inl (g 0, 6, .inl NM))]) (wr := []) ⟨rfl, rfl⟩ (zk_rv (As := []) (rest := []) (q0 := 0) (ci := 8) Z ((ih.2.2.2.1 b m ln (p1_1 + 1) op tb TP TX NM (r_1 :: ST) (by exact hln) (by omega) (by exact ht) (by omega) (by omega)) H.size) hK hT hA G [0, 1, 2, 3] rfl (by decide) rfl rfl gmX8_compared_X8_sums rfl dvX8_sums ⟨by first | decide | (simp only [rm_X8_either, rm_X8_both, rm_X8_compared, rm_X8_sums, rm_X8_product, rm_X8_one]; omega), by first | decide | (simp only [rm_X8_either, rm_X8_both, rm_X8_compared, rm_X8_sums, rm_X8_product, rm_X8_one]; omega)⟩ rfl hl.1 rfl (Nat.le_of_ble_eq_true rfl) dX8_compared_48 ⟨Nat.zero_le _, Nat.zero_le _⟩) hA G [0, 1, 2, 3] [] [0, 1, 2, 3] rfl rfl (by decide) (by decide) (by decide) (fun _ => rfl) (fun r_48 uu H locs w_48 G => ?_)
      obtain ⟨p1_48, ft1_48, oq1_48⟩ := uu
      have G : zk_G D aA [(b 100, .inr (8, [.ref (b 0), .ref (b 1), .ref (b 2), .ref (b 3), .int (m 4), .int (m 5), .int (m 6), .int (m 7), .ref (b 8), .int (m 9), .ref (b 10), .int (m 11), .int (zm_bs tb), .int (nI p1_48), .int (nI ln), .int ft1_48, .int oq1_48, .ref (b 17), .ref (b 18), .ref (b 19), .ref (b 20), .ref (b 21), .ref (b 22), .ref (b 23), .ref (b 24), .int (m 25), .int (m 26), .int (m 27), .int (m 28), .ref (b 29), .ref (b 30), .int (m 31), .int (m 32), .int (m 33), .int (m 34), .int (m 35), .ref (b 36), .ref (b 37), .int (m 38), .ref (b 39), .ref (b 40), .int (m 41), .int (m 42), .int (m 43), .ref (b 44), .ref (b 45), .ref (b 46), .ref (b 47)])), (b 8, .inl (g 0, 120, .inl (fun i => nI (TP i)))), (b 10, .inl (g 0, 120, .inl (fun i => nI (TX i)))), (b 17, .inl (g 0, 6, .inl NM))] sS H locs := G
      have zb_48 := zg_le (em := zm_em NM) (ln := ln) ht d 3 (op) (p1_1 + 1) (r_1 :: ST) (by omega) (by omega) (by omega) (by omega)
      rcases hz_48 : zg (zm_tx tb TP TX) ln (zm_em NM) d 3 (op) (p1_1 + 1) (r_1 :: ST) with e | ⟨a9, s9⟩
      · obtain ⟨h1_48, h2_48⟩ := zm_pl w_48 hz_48
        obtain rfl : p1_48 = e := h1_48
        obtain rfl : ft1_48 = nI p1_48 := h2_48
        have hb_48 := zb_48
        rw [hz_48] at hb_48
        have hp_48 : p1_48 ≤ ln := hb_48.2
        refine lv_istore_n (lv' := [(3, .int r_48), (2, .int (nI (zg_c (zm_tx tb TP TX) ln p1_1))), (1, .int r_1), (0, .ref (b 100))]) Z.1 Z.2.1 dX8_compared_51 rfl hl (by decide) rfl (fun ls hl => ?_)
        refine lv_iload_n Z.1 Z.2.1 dX8_compared_52 rfl (lv_at hl 1 rfl) ?_
        refine lv_bipush (v := nI 60) Z.1 Z.2.1 dX8_compared_53 (by decide +kernel) ?_
        refine lv_icmp_ne (tgt := 66) Z.1 Z.2.1 dX8_compared_55 (by decide) (fun c55 => ?_) (fun c55 => ?_)
        · exfalso
          have c55 : zg_c (zm_tx tb TP TX) ln p1_1 ≠ 60 := zk_neq (by omega) (by omega) c55
          exact c55 htk
        have c55 : zg_c (zm_tx tb TP TX) ln p1_1 = 60 := zk_eq (by omega) (by omega) c55
        refine lv_iload_n Z.1 Z.2.1 dX8_compared_58 rfl (lv_at hl 2 rfl) ?_
        refine lv_iload_n Z.1 Z.2.1 dX8_compared_59 rfl (lv_at hl 0 rfl) ?_
        refine lv_icmp_ge (tgt := 89) Z.1 Z.2.1 dX8_compared_60 (by decide) (fun c60 => ?_) (fun c60 => ?_)
        · have c60 : r_48 ≤ r_1 := c60
          refine lv_iconst (v := nI 0) Z.1 Z.2.1 dX8_compared_89 (by decide +kernel) ?_
          exact zk_reti Z hR_ hlk hK hQ G (p1_48, nI p1_48, oq1_48) (by simp only [zg]; rw [if_pos (by decide), hz_1]; try simp only []; show zm_post (zg_lp _ _ _ _ _ 1 _ _) _ _ _ _ _ _; simp only [zg_lp]; rw [if_pos hlv, hz_48]; exact ⟨rfl, rfl⟩) rfl dX8_compared_90
        have c60 : ¬ r_48 ≤ r_1 := c60
        refine lv_goto (tgt := 85) Z.1 Z.2.1 dX8_compared_63 (by decide) ?_
        refine lv_iconst (v := nI 1) Z.1 Z.2.1 dX8_compared_85 (by decide +kernel) ?_
        refine lv_goto (tgt := 90) Z.1 Z.2.1 dX8_compared_86 (by decide) ?_
        exact zk_reti Z hR_ hlk hK hQ G (p1_48, nI p1_48, oq1_48) (by simp only [zg]; rw [if_pos (by decide), hz_1]; try simp only []; show zm_post (zg_lp _ _ _ _ _ 1 _ _) _ _ _ _ _ _; simp only [zg_lp]; rw [if_pos hlv, hz_48]; exact ⟨rfl, rfl⟩) rfl dX8_compared_90
      · obtain ⟨h1_48, h2_48, h3_48, h4_48⟩ := zm_pr w_48 hz_48
        obtain rfl : p1_48 = a9 := h1_48
        obtain rfl : ft1_48 = -1 := h2_48
        obtain rfl : oq1_48 = nI (op) := h3_48
        obtain rfl : s9 = r_48 :: (r_1 :: ST) := h4_48
        have hb_48 := zb_48
        rw [hz_48] at hb_48
        have hp_48 : p1_48 ≤ ln := hb_48.2
        have hq_48 : p1_1 + 1 ≤ p1_48 := hb_48.1
        refine lv_istore_n (lv' := [(3, .int r_48), (2, .int (nI (zg_c (zm_tx tb TP TX) ln p1_1))), (1, .int r_1), (0, .ref (b 100))]) Z.1 Z.2.1 dX8_compared_51 rfl hl (by decide) rfl (fun ls hl => ?_)
        refine lv_iload_n Z.1 Z.2.1 dX8_compared_52 rfl (lv_at hl 1 rfl) ?_
        refine lv_bipush (v := nI 60) Z.1 Z.2.1 dX8_compared_53 (by decide +kernel) ?_
        refine lv_icmp_ne (tgt := 66) Z.1 Z.2.1 dX8_compared_55 (by decide) (fun c55 => ?_) (fun c55 => ?_)
        · exfalso
          have c55 : zg_c (zm_tx tb TP TX) ln p1_1 ≠ 60 := zk_neq (by omega) (by omega) c55
          exact c55 htk
        have c55 : zg_c (zm_tx tb TP TX) ln p1_1 = 60 := zk_eq (by omega) (by omega) c55
        refine lv_iload_n Z.1 Z.2.1 dX8_compared_58 rfl (lv_at hl 2 rfl) ?_
        refine lv_iload_n Z.1 Z.2.1 dX8_compared_59 rfl (lv_at hl 0 rfl) ?_
        refine lv_icmp_ge (tgt := 89) Z.1 Z.2.1 dX8_compared_60 (by decide) (fun c60 => ?_) (fun c60 => ?_)
        · have c60 : r_48 ≤ r_1 := c60
          refine lv_iconst (v := nI 0) Z.1 Z.2.1 dX8_compared_89 (by decide +kernel) ?_
          exact zk_reti Z hR_ hlk hK hQ G (p1_48, -1, nI op) (by simp only [zg]; rw [if_pos (by decide), hz_1]; try simp only []; show zm_post (zg_lp _ _ _ _ _ 1 _ _) _ _ _ _ _ _; simp only [zg_lp]; rw [if_pos hlv, hz_48]; try simp only []; rw [htk]; exact ⟨rfl, rfl, rfl, (congrArg (· :: ST) (show zl_op 60 r_1 r_48 = nI 0 by simp [zl_op, c60]))⟩) rfl dX8_compared_90
        have c60 : ¬ r_48 ≤ r_1 := c60
        refine lv_goto (tgt := 85) Z.1 Z.2.1 dX8_compared_63 (by decide) ?_
        refine lv_iconst (v := nI 1) Z.1 Z.2.1 dX8_compared_85 (by decide +kernel) ?_
        refine lv_goto (tgt := 90) Z.1 Z.2.1 dX8_compared_86 (by decide) ?_
        exact zk_reti Z hR_ hlk hK hQ G (p1_48, -1, nI op) (by simp only [zg]; rw [if_pos (by decide), hz_1]; try simp only []; show zm_post (zg_lp _ _ _ _ _ 1 _ _) _ _ _ _ _ _; simp only [zg_lp]; rw [if_pos hlv, hz_48]; try simp only []; rw [htk]; exact ⟨rfl, rfl, rfl, (congrArg (· :: ST) (show zl_op 60 r_1 r_48 = nI 1 by simp [zl_op, c60]))⟩) rfl dX8_compared_90
    have c20 : zg_c (zm_tx tb TP TX) ln p1_1 ≠ 60 := zk_neq (by omega) (by omega) c20
    refine lv_iload_n Z.1 Z.2.1 dX8_compared_23 rfl (lv_at hl 0 rfl) ?_
    refine lv_bipush (v := nI 61) Z.1 Z.2.1 dX8_compared_24 (by decide +kernel) ?_
    refine lv_icmp_eq (tgt := 37) Z.1 Z.2.1 dX8_compared_26 (by decide) (fun c26 => ?_) (fun c26 => ?_)
    · have c26 : zg_c (zm_tx tb TP TX) ln p1_1 = 61 := zk_eq (by omega) (by omega) c26
      have htk : zg_c (zm_tx tb TP TX) ln p1_1 = 61 := c26
      have hlv : zg_lev (zg_c (zm_tx tb TP TX) ln p1_1) = 2 := by rw [htk]; rfl
      have hpl : p1_1 < ln := zg_c_lt (tp := (zm_tx tb TP TX)) (by rw [htk]; decide)
      refine lv_aload_n Z.1 Z.2.1 dX8_compared_37 rfl (lv_at hl 2 rfl) ?_
      refine lv_dup Z.1 Z.2.1 dX8_compared_38 rfl ?_
      refine zk_get (C := RX8) (T := TX8) (N := 48) (ci := 8) Z hK G hinX8 0 rfl rfl 13 (by decide) (List.mem_cons_of_mem _ wa8_101) rfl (v := .int (nI p1_1)) rfl dX8_compared_39 ?_
      refine lv_iconst (v := nI 1) Z.1 Z.2.1 dX8_compared_42 (by decide +kernel) ?_
      refine zk_iadd Z dX8_compared_43 (z := nI (p1_1 + 1)) (nI_add _ _) ?_
      refine zk_put tyX8 tyX8_ok nmX8 (C := RX8) (T := TX8) (N := 48) (ci := 8) Z hK G hinX8 0 rfl rfl 13 (by decide) (List.mem_cons_of_mem _ wa8_101) rfl rfl rfl rfl (Nat.le_of_ble_eq_true rfl) (ws' := [(b 100, .inr (8, [.ref (b 0), .ref (b 1), .ref (b 2), .ref (b 3), .int (m 4), .int (m 5), .int (m 6), .int (m 7), .ref (b 8), .int (m 9), .ref (b 10), .int (m 11), .int (zm_bs tb), .int (nI (p1_1 + 1)), .int (nI ln), .int (-1), .int (nI op), .ref (b 17), .ref (b 18), .ref (b 19), .ref (b 20), .ref (b 21), .ref (b 22), .ref (b 23), .ref (b 24), .int (m 25), .int (m 26), .int (m 27), .int (m 28), .ref (b 29), .ref (b 30), .int (m 31), .int (m 32), .int (m 33), .int (m 34), .int (m 35), .ref (b 36), .ref (b 37), .int (m 38), .ref (b 39), .ref (b 40), .int (m 41), .int (m 42), .int (m 43), .ref (b 44), .ref (b 45), .ref (b 46), .ref (b 47)])), (b 8, .inl (g 0, 120, .inl (fun i => nI (TP i)))), (b 10, .inl (g 0, 120, .inl (fun i => nI (TX i)))), (b 17, .inl (g 0, 6, .inl NM))]) rfl dX8_compared_44 (fun H locs G => ?_)
      refine lv_aload_n Z.1 Z.2.1 dX8_compared_47 rfl (lv_at hl 2 rfl) ?_
      refine zk_ci (WF := fun uu => [(b 100, .inr (8, [.ref (b 0), .ref (b 1), .ref (b 2), .ref (b 3), .int (m 4), .int (m 5), .int (m 6), .int (m 7), .ref (b 8), .int (m 9), .ref (b 10), .int (m 11), .int (zm_bs tb), .int (nI uu.1), .int (nI ln), .int uu.2.1, .int uu.2.2, .ref (b 17), .ref (b 18), .ref (b 19), .ref (b 20), .ref (b 21), .ref (b 22), .ref (b 23), .ref (b 24), .int (m 25), .int (m 26), .int (m 27), .int (m 28), .ref (b 29), .ref (b 30), .int (m 31), .int (m 32), .int (m 33), .int (m 34), .int (m 35), .ref (b 36), .ref (b 37), .int (m 38), .ref (b 39), .ref (b 40), .int (m 41), .int (m 42), .int (m 43), .ref (b 44), .ref (b 45), .ref (b 46), .ref (b 47)])), (b 8, .inl (g 0, 120, .inl (fun i => nI (TP i)))), (b 10, .inl (g 0, 120, .inl (fun i => nI (TX i)))), (b 17, .inl (g 0, 6, .inl NM))]) (wr := []) ⟨rfl, rfl⟩ (zk_rv (As := []) (rest := []) (q0 := 0) (ci := 8) Z ((ih.2.2.2.1 b m ln (p1_1 + 1) op tb TP TX NM (r_1 :: ST) (by exact hln) (by omega) (by exact ht) (by omega) (by omega)) H.size) hK hT hA G [0, 1, 2, 3] rfl (by decide) rfl rfl gmX8_compared_X8_sums rfl dvX8_sums ⟨by first | decide | (simp only [rm_X8_either, rm_X8_both, rm_X8_compared, rm_X8_sums, rm_X8_product, rm_X8_one]; omega), by first | decide | (simp only [rm_X8_either, rm_X8_both, rm_X8_compared, rm_X8_sums, rm_X8_product, rm_X8_one]; omega)⟩ rfl hl.1 rfl (Nat.le_of_ble_eq_true rfl) dX8_compared_48 ⟨Nat.zero_le _, Nat.zero_le _⟩) hA G [0, 1, 2, 3] [] [0, 1, 2, 3] rfl rfl (by decide) (by decide) (by decide) (fun _ => rfl) (fun r_48 uu H locs w_48 G => ?_)
      obtain ⟨p1_48, ft1_48, oq1_48⟩ := uu
      have G : zk_G D aA [(b 100, .inr (8, [.ref (b 0), .ref (b 1), .ref (b 2), .ref (b 3), .int (m 4), .int (m 5), .int (m 6), .int (m 7), .ref (b 8), .int (m 9), .ref (b 10), .int (m 11), .int (zm_bs tb), .int (nI p1_48), .int (nI ln), .int ft1_48, .int oq1_48, .ref (b 17), .ref (b 18), .ref (b 19), .ref (b 20), .ref (b 21), .ref (b 22), .ref (b 23), .ref (b 24), .int (m 25), .int (m 26), .int (m 27), .int (m 28), .ref (b 29), .ref (b 30), .int (m 31), .int (m 32), .int (m 33), .int (m 34), .int (m 35), .ref (b 36), .ref (b 37), .int (m 38), .ref (b 39), .ref (b 40), .int (m 41), .int (m 42), .int (m 43), .ref (b 44), .ref (b 45), .ref (b 46), .ref (b 47)])), (b 8, .inl (g 0, 120, .inl (fun i => nI (TP i)))), (b 10, .inl (g 0, 120, .inl (fun i => nI (TX i)))), (b 17, .inl (g 0, 6, .inl NM))] sS H locs := G
      have zb_48 := zg_le (em := zm_em NM) (ln := ln) ht d 3 (op) (p1_1 + 1) (r_1 :: ST) (by omega) (by omega) (by omega) (by omega)
      rcases hz_48 : zg (zm_tx tb TP TX) ln (zm_em NM) d 3 (op) (p1_1 + 1) (r_1 :: ST) with e | ⟨a9, s9⟩
      · obtain ⟨h1_48, h2_48⟩ := zm_pl w_48 hz_48
        obtain rfl : p1_48 = e := h1_48
        obtain rfl : ft1_48 = nI p1_48 := h2_48
        have hb_48 := zb_48
        rw [hz_48] at hb_48
        have hp_48 : p1_48 ≤ ln := hb_48.2
        refine lv_istore_n (lv' := [(3, .int r_48), (2, .int (nI (zg_c (zm_tx tb TP TX) ln p1_1))), (1, .int r_1), (0, .ref (b 100))]) Z.1 Z.2.1 dX8_compared_51 rfl hl (by decide) rfl (fun ls hl => ?_)
        refine lv_iload_n Z.1 Z.2.1 dX8_compared_52 rfl (lv_at hl 1 rfl) ?_
        refine lv_bipush (v := nI 60) Z.1 Z.2.1 dX8_compared_53 (by decide +kernel) ?_
        refine lv_icmp_ne (tgt := 66) Z.1 Z.2.1 dX8_compared_55 (by decide) (fun c55 => ?_) (fun c55 => ?_)
        · have c55 : zg_c (zm_tx tb TP TX) ln p1_1 ≠ 60 := zk_neq (by omega) (by omega) c55
          refine lv_iload_n Z.1 Z.2.1 dX8_compared_66 rfl (lv_at hl 1 rfl) ?_
          refine lv_bipush (v := nI 61) Z.1 Z.2.1 dX8_compared_67 (by decide +kernel) ?_
          refine lv_icmp_ne (tgt := 80) Z.1 Z.2.1 dX8_compared_69 (by decide) (fun c69 => ?_) (fun c69 => ?_)
          · exfalso
            have c69 : zg_c (zm_tx tb TP TX) ln p1_1 ≠ 61 := zk_neq (by omega) (by omega) c69
            exact c69 htk
          have c69 : zg_c (zm_tx tb TP TX) ln p1_1 = 61 := zk_eq (by omega) (by omega) c69
          refine lv_iload_n Z.1 Z.2.1 dX8_compared_72 rfl (lv_at hl 2 rfl) ?_
          refine lv_iload_n Z.1 Z.2.1 dX8_compared_73 rfl (lv_at hl 0 rfl) ?_
          refine lv_icmp_ne (tgt := 89) Z.1 Z.2.1 dX8_compared_74 (by decide) (fun c74 => ?_) (fun c74 => ?_)
          · have c74 : ¬ r_1 = r_48 := c74
            refine lv_iconst (v := nI 0) Z.1 Z.2.1 dX8_compared_89 (by decide +kernel) ?_
            exact zk_reti Z hR_ hlk hK hQ G (p1_48, nI p1_48, oq1_48) (by simp only [zg]; rw [if_pos (by decide), hz_1]; try simp only []; show zm_post (zg_lp _ _ _ _ _ 1 _ _) _ _ _ _ _ _; simp only [zg_lp]; rw [if_pos hlv, hz_48]; exact ⟨rfl, rfl⟩) rfl dX8_compared_90
          have c74 : r_1 = r_48 := c74
          refine lv_goto (tgt := 85) Z.1 Z.2.1 dX8_compared_77 (by decide) ?_
          refine lv_iconst (v := nI 1) Z.1 Z.2.1 dX8_compared_85 (by decide +kernel) ?_
          refine lv_goto (tgt := 90) Z.1 Z.2.1 dX8_compared_86 (by decide) ?_
          exact zk_reti Z hR_ hlk hK hQ G (p1_48, nI p1_48, oq1_48) (by simp only [zg]; rw [if_pos (by decide), hz_1]; try simp only []; show zm_post (zg_lp _ _ _ _ _ 1 _ _) _ _ _ _ _ _; simp only [zg_lp]; rw [if_pos hlv, hz_48]; exact ⟨rfl, rfl⟩) rfl dX8_compared_90
        exfalso
        have c55 : zg_c (zm_tx tb TP TX) ln p1_1 = 60 := zk_eq (by omega) (by omega) c55
        omega
      · obtain ⟨h1_48, h2_48, h3_48, h4_48⟩ := zm_pr w_48 hz_48
        obtain rfl : p1_48 = a9 := h1_48
        obtain rfl : ft1_48 = -1 := h2_48
        obtain rfl : oq1_48 = nI (op) := h3_48
        obtain rfl : s9 = r_48 :: (r_1 :: ST) := h4_48
        have hb_48 := zb_48
        rw [hz_48] at hb_48
        have hp_48 : p1_48 ≤ ln := hb_48.2
        have hq_48 : p1_1 + 1 ≤ p1_48 := hb_48.1
        refine lv_istore_n (lv' := [(3, .int r_48), (2, .int (nI (zg_c (zm_tx tb TP TX) ln p1_1))), (1, .int r_1), (0, .ref (b 100))]) Z.1 Z.2.1 dX8_compared_51 rfl hl (by decide) rfl (fun ls hl => ?_)
        refine lv_iload_n Z.1 Z.2.1 dX8_compared_52 rfl (lv_at hl 1 rfl) ?_
        refine lv_bipush (v := nI 60) Z.1 Z.2.1 dX8_compared_53 (by decide +kernel) ?_
        refine lv_icmp_ne (tgt := 66) Z.1 Z.2.1 dX8_compared_55 (by decide) (fun c55 => ?_) (fun c55 => ?_)
        · have c55 : zg_c (zm_tx tb TP TX) ln p1_1 ≠ 60 := zk_neq (by omega) (by omega) c55
          refine lv_iload_n Z.1 Z.2.1 dX8_compared_66 rfl (lv_at hl 1 rfl) ?_
          refine lv_bipush (v := nI 61) Z.1 Z.2.1 dX8_compared_67 (by decide +kernel) ?_
          refine lv_icmp_ne (tgt := 80) Z.1 Z.2.1 dX8_compared_69 (by decide) (fun c69 => ?_) (fun c69 => ?_)
          · exfalso
            have c69 : zg_c (zm_tx tb TP TX) ln p1_1 ≠ 61 := zk_neq (by omega) (by omega) c69
            exact c69 htk
          have c69 : zg_c (zm_tx tb TP TX) ln p1_1 = 61 := zk_eq (by omega) (by omega) c69
          refine lv_iload_n Z.1 Z.2.1 dX8_compared_72 rfl (lv_at hl 2 rfl) ?_
          refine lv_iload_n Z.1 Z.2.1 dX8_compared_73 rfl (lv_at hl 0 rfl) ?_
          refine lv_icmp_ne (tgt := 89) Z.1 Z.2.1 dX8_compared_74 (by decide) (fun c74 => ?_) (fun c74 => ?_)
          · have c74 : ¬ r_1 = r_48 := c74
            refine lv_iconst (v := nI 0) Z.1 Z.2.1 dX8_compared_89 (by decide +kernel) ?_
            exact zk_reti Z hR_ hlk hK hQ G (p1_48, -1, nI op) (by simp only [zg]; rw [if_pos (by decide), hz_1]; try simp only []; show zm_post (zg_lp _ _ _ _ _ 1 _ _) _ _ _ _ _ _; simp only [zg_lp]; rw [if_pos hlv, hz_48]; try simp only []; rw [htk]; exact ⟨rfl, rfl, rfl, (congrArg (· :: ST) (show zl_op 61 r_1 r_48 = nI 0 by simp [zl_op, c74]))⟩) rfl dX8_compared_90
          have c74 : r_1 = r_48 := c74
          refine lv_goto (tgt := 85) Z.1 Z.2.1 dX8_compared_77 (by decide) ?_
          refine lv_iconst (v := nI 1) Z.1 Z.2.1 dX8_compared_85 (by decide +kernel) ?_
          refine lv_goto (tgt := 90) Z.1 Z.2.1 dX8_compared_86 (by decide) ?_
          exact zk_reti Z hR_ hlk hK hQ G (p1_48, -1, nI op) (by simp only [zg]; rw [if_pos (by decide), hz_1]; try simp only []; show zm_post (zg_lp _ _ _ _ _ 1 _ _) _ _ _ _ _ _; simp only [zg_lp]; rw [if_pos hlv, hz_48]; try simp only []; rw [htk]; exact ⟨rfl, rfl, rfl, (congrArg (· :: ST) (show zl_op 61 r_1 r_48 = nI 1 by simp [zl_op, c74]))⟩) rfl dX8_compared_90
        exfalso
        have c55 : zg_c (zm_tx tb TP TX) ln p1_1 = 60 := zk_eq (by omega) (by omega) c55
        omega
    have c26 : zg_c (zm_tx tb TP TX) ln p1_1 ≠ 61 := zk_neq (by omega) (by omega) c26
    refine lv_iload_n Z.1 Z.2.1 dX8_compared_29 rfl (lv_at hl 0 rfl) ?_
    refine lv_bipush (v := nI 62) Z.1 Z.2.1 dX8_compared_30 (by decide +kernel) ?_
    refine lv_icmp_eq (tgt := 37) Z.1 Z.2.1 dX8_compared_32 (by decide) (fun c32 => ?_) (fun c32 => ?_)
    · have c32 : zg_c (zm_tx tb TP TX) ln p1_1 = 62 := zk_eq (by omega) (by omega) c32
      have htk : zg_c (zm_tx tb TP TX) ln p1_1 = 62 := c32
      have hlv : zg_lev (zg_c (zm_tx tb TP TX) ln p1_1) = 2 := by rw [htk]; rfl
      have hpl : p1_1 < ln := zg_c_lt (tp := (zm_tx tb TP TX)) (by rw [htk]; decide)
      refine lv_aload_n Z.1 Z.2.1 dX8_compared_37 rfl (lv_at hl 2 rfl) ?_
      refine lv_dup Z.1 Z.2.1 dX8_compared_38 rfl ?_
      refine zk_get (C := RX8) (T := TX8) (N := 48) (ci := 8) Z hK G hinX8 0 rfl rfl 13 (by decide) (List.mem_cons_of_mem _ wa8_101) rfl (v := .int (nI p1_1)) rfl dX8_compared_39 ?_
      refine lv_iconst (v := nI 1) Z.1 Z.2.1 dX8_compared_42 (by decide +kernel) ?_
      refine zk_iadd Z dX8_compared_43 (z := nI (p1_1 + 1)) (nI_add _ _) ?_
      refine zk_put tyX8 tyX8_ok nmX8 (C := RX8) (T := TX8) (N := 48) (ci := 8) Z hK G hinX8 0 rfl rfl 13 (by decide) (List.mem_cons_of_mem _ wa8_101) rfl rfl rfl rfl (Nat.le_of_ble_eq_true rfl) (ws' := [(b 100, .inr (8, [.ref (b 0), .ref (b 1), .ref (b 2), .ref (b 3), .int (m 4), .int (m 5), .int (m 6), .int (m 7), .ref (b 8), .int (m 9), .ref (b 10), .int (m 11), .int (zm_bs tb), .int (nI (p1_1 + 1)), .int (nI ln), .int (-1), .int (nI op), .ref (b 17), .ref (b 18), .ref (b 19), .ref (b 20), .ref (b 21), .ref (b 22), .ref (b 23), .ref (b 24), .int (m 25), .int (m 26), .int (m 27), .int (m 28), .ref (b 29), .ref (b 30), .int (m 31), .int (m 32), .int (m 33), .int (m 34), .int (m 35), .ref (b 36), .ref (b 37), .int (m 38), .ref (b 39), .ref (b 40), .int (m 41), .int (m 42), .int (m 43), .ref (b 44), .ref (b 45), .ref (b 46), .ref (b 47)])), (b 8, .inl (g 0, 120, .inl (fun i => nI (TP i)))), (b 10, .inl (g 0, 120, .inl (fun i => nI (TX i)))), (b 17, .inl (g 0, 6, .inl NM))]) rfl dX8_compared_44 (fun H locs G => ?_)
      refine lv_aload_n Z.1 Z.2.1 dX8_compared_47 rfl (lv_at hl 2 rfl) ?_
      refine zk_ci (WF := fun uu => [(b 100, .inr (8, [.ref (b 0), .ref (b 1), .ref (b 2), .ref (b 3), .int (m 4), .int (m 5), .int (m 6), .int (m 7), .ref (b 8), .int (m 9), .ref (b 10), .int (m 11), .int (zm_bs tb), .int (nI uu.1), .int (nI ln), .int uu.2.1, .int uu.2.2, .ref (b 17), .ref (b 18), .ref (b 19), .ref (b 20), .ref (b 21), .ref (b 22), .ref (b 23), .ref (b 24), .int (m 25), .int (m 26), .int (m 27), .int (m 28), .ref (b 29), .ref (b 30), .int (m 31), .int (m 32), .int (m 33), .int (m 34), .int (m 35), .ref (b 36), .ref (b 37), .int (m 38), .ref (b 39), .ref (b 40), .int (m 41), .int (m 42), .int (m 43), .ref (b 44), .ref (b 45), .ref (b 46), .ref (b 47)])), (b 8, .inl (g 0, 120, .inl (fun i => nI (TP i)))), (b 10, .inl (g 0, 120, .inl (fun i => nI (TX i)))), (b 17, .inl (g 0, 6, .inl NM))]) (wr := []) ⟨rfl, rfl⟩ (zk_rv (As := []) (rest := []) (q0 := 0) (ci := 8) Z ((ih.2.2.2.1 b m ln (p1_1 + 1) op tb TP TX NM (r_1 :: ST) (by exact hln) (by omega) (by exact ht) (by omega) (by omega)) H.size) hK hT hA G [0, 1, 2, 3] rfl (by decide) rfl rfl gmX8_compared_X8_sums rfl dvX8_sums ⟨by first | decide | (simp only [rm_X8_either, rm_X8_both, rm_X8_compared, rm_X8_sums, rm_X8_product, rm_X8_one]; omega), by first | decide | (simp only [rm_X8_either, rm_X8_both, rm_X8_compared, rm_X8_sums, rm_X8_product, rm_X8_one]; omega)⟩ rfl hl.1 rfl (Nat.le_of_ble_eq_true rfl) dX8_compared_48 ⟨Nat.zero_le _, Nat.zero_le _⟩) hA G [0, 1, 2, 3] [] [0, 1, 2, 3] rfl rfl (by decide) (by decide) (by decide) (fun _ => rfl) (fun r_48 uu H locs w_48 G => ?_)
      obtain ⟨p1_48, ft1_48, oq1_48⟩ := uu
      have G : zk_G D aA [(b 100, .inr (8, [.ref (b 0), .ref (b 1), .ref (b 2), .ref (b 3), .int (m 4), .int (m 5), .int (m 6), .int (m 7), .ref (b 8), .int (m 9), .ref (b 10), .int (m 11), .int (zm_bs tb), .int (nI p1_48), .int (nI ln), .int ft1_48, .int oq1_48, .ref (b 17), .ref (b 18), .ref (b 19), .ref (b 20), .ref (b 21), .ref (b 22), .ref (b 23), .ref (b 24), .int (m 25), .int (m 26), .int (m 27), .int (m 28), .ref (b 29), .ref (b 30), .int (m 31), .int (m 32), .int (m 33), .int (m 34), .int (m 35), .ref (b 36), .ref (b 37), .int (m 38), .ref (b 39), .ref (b 40), .int (m 41), .int (m 42), .int (m 43), .ref (b 44), .ref (b 45), .ref (b 46), .ref (b 47)])), (b 8, .inl (g 0, 120, .inl (fun i => nI (TP i)))), (b 10, .inl (g 0, 120, .inl (fun i => nI (TX i)))), (b 17, .inl (g 0, 6, .inl NM))] sS H locs := G
      have zb_48 := zg_le (em := zm_em NM) (ln := ln) ht d 3 (op) (p1_1 + 1) (r_1 :: ST) (by omega) (by omega) (by omega) (by omega)
      rcases hz_48 : zg (zm_tx tb TP TX) ln (zm_em NM) d 3 (op) (p1_1 + 1) (r_1 :: ST) with e | ⟨a9, s9⟩
      · obtain ⟨h1_48, h2_48⟩ := zm_pl w_48 hz_48
        obtain rfl : p1_48 = e := h1_48
        obtain rfl : ft1_48 = nI p1_48 := h2_48
        have hb_48 := zb_48
        rw [hz_48] at hb_48
        have hp_48 : p1_48 ≤ ln := hb_48.2
        refine lv_istore_n (lv' := [(3, .int r_48), (2, .int (nI (zg_c (zm_tx tb TP TX) ln p1_1))), (1, .int r_1), (0, .ref (b 100))]) Z.1 Z.2.1 dX8_compared_51 rfl hl (by decide) rfl (fun ls hl => ?_)
        refine lv_iload_n Z.1 Z.2.1 dX8_compared_52 rfl (lv_at hl 1 rfl) ?_
        refine lv_bipush (v := nI 60) Z.1 Z.2.1 dX8_compared_53 (by decide +kernel) ?_
        refine lv_icmp_ne (tgt := 66) Z.1 Z.2.1 dX8_compared_55 (by decide) (fun c55 => ?_) (fun c55 => ?_)
        · have c55 : zg_c (zm_tx tb TP TX) ln p1_1 ≠ 60 := zk_neq (by omega) (by omega) c55
          refine lv_iload_n Z.1 Z.2.1 dX8_compared_66 rfl (lv_at hl 1 rfl) ?_
          refine lv_bipush (v := nI 61) Z.1 Z.2.1 dX8_compared_67 (by decide +kernel) ?_
          refine lv_icmp_ne (tgt := 80) Z.1 Z.2.1 dX8_compared_69 (by decide) (fun c69 => ?_) (fun c69 => ?_)
          · have c69 : zg_c (zm_tx tb TP TX) ln p1_1 ≠ 61 := zk_neq (by omega) (by omega) c69
            refine lv_iload_n Z.1 Z.2.1 dX8_compared_80 rfl (lv_at hl 2 rfl) ?_
            refine lv_iload_n Z.1 Z.2.1 dX8_compared_81 rfl (lv_at hl 0 rfl) ?_
            refine lv_icmp_le (tgt := 89) Z.1 Z.2.1 dX8_compared_82 (by decide) (fun c82 => ?_) (fun c82 => ?_)
            · have c82 : r_1 ≤ r_48 := c82
              refine lv_iconst (v := nI 0) Z.1 Z.2.1 dX8_compared_89 (by decide +kernel) ?_
              exact zk_reti Z hR_ hlk hK hQ G (p1_48, nI p1_48, oq1_48) (by simp only [zg]; rw [if_pos (by decide), hz_1]; try simp only []; show zm_post (zg_lp _ _ _ _ _ 1 _ _) _ _ _ _ _ _; simp only [zg_lp]; rw [if_pos hlv, hz_48]; exact ⟨rfl, rfl⟩) rfl dX8_compared_90
            have c82 : ¬ r_1 ≤ r_48 := c82
            refine lv_iconst (v := nI 1) Z.1 Z.2.1 dX8_compared_85 (by decide +kernel) ?_
            refine lv_goto (tgt := 90) Z.1 Z.2.1 dX8_compared_86 (by decide) ?_
            exact zk_reti Z hR_ hlk hK hQ G (p1_48, nI p1_48, oq1_48) (by simp only [zg]; rw [if_pos (by decide), hz_1]; try simp only []; show zm_post (zg_lp _ _ _ _ _ 1 _ _) _ _ _ _ _ _; simp only [zg_lp]; rw [if_pos hlv, hz_48]; exact ⟨rfl, rfl⟩) rfl dX8_compared_90
          exfalso
          have c69 : zg_c (zm_tx tb TP TX) ln p1_1 = 61 := zk_eq (by omega) (by omega) c69
          omega
        exfalso
        have c55 : zg_c (zm_tx tb TP TX) ln p1_1 = 60 := zk_eq (by omega) (by omega) c55
        omega
      · obtain ⟨h1_48, h2_48, h3_48, h4_48⟩ := zm_pr w_48 hz_48
        obtain rfl : p1_48 = a9 := h1_48
        obtain rfl : ft1_48 = -1 := h2_48
        obtain rfl : oq1_48 = nI (op) := h3_48
        obtain rfl : s9 = r_48 :: (r_1 :: ST) := h4_48
        have hb_48 := zb_48
        rw [hz_48] at hb_48
        have hp_48 : p1_48 ≤ ln := hb_48.2
        have hq_48 : p1_1 + 1 ≤ p1_48 := hb_48.1
        refine lv_istore_n (lv' := [(3, .int r_48), (2, .int (nI (zg_c (zm_tx tb TP TX) ln p1_1))), (1, .int r_1), (0, .ref (b 100))]) Z.1 Z.2.1 dX8_compared_51 rfl hl (by decide) rfl (fun ls hl => ?_)
        refine lv_iload_n Z.1 Z.2.1 dX8_compared_52 rfl (lv_at hl 1 rfl) ?_
        refine lv_bipush (v := nI 60) Z.1 Z.2.1 dX8_compared_53 (by decide +kernel) ?_
        refine lv_icmp_ne (tgt := 66) Z.1 Z.2.1 dX8_compared_55 (by decide) (fun c55 => ?_) (fun c55 => ?_)
        · have c55 : zg_c (zm_tx tb TP TX) ln p1_1 ≠ 60 := zk_neq (by omega) (by omega) c55
          refine lv_iload_n Z.1 Z.2.1 dX8_compared_66 rfl (lv_at hl 1 rfl) ?_
          refine lv_bipush (v := nI 61) Z.1 Z.2.1 dX8_compared_67 (by decide +kernel) ?_
          refine lv_icmp_ne (tgt := 80) Z.1 Z.2.1 dX8_compared_69 (by decide) (fun c69 => ?_) (fun c69 => ?_)
          · have c69 : zg_c (zm_tx tb TP TX) ln p1_1 ≠ 61 := zk_neq (by omega) (by omega) c69
            refine lv_iload_n Z.1 Z.2.1 dX8_compared_80 rfl (lv_at hl 2 rfl) ?_
            refine lv_iload_n Z.1 Z.2.1 dX8_compared_81 rfl (lv_at hl 0 rfl) ?_
            refine lv_icmp_le (tgt := 89) Z.1 Z.2.1 dX8_compared_82 (by decide) (fun c82 => ?_) (fun c82 => ?_)
            · have c82 : r_1 ≤ r_48 := c82
              refine lv_iconst (v := nI 0) Z.1 Z.2.1 dX8_compared_89 (by decide +kernel) ?_
              exact zk_reti Z hR_ hlk hK hQ G (p1_48, -1, nI op) (by simp only [zg]; rw [if_pos (by decide), hz_1]; try simp only []; show zm_post (zg_lp _ _ _ _ _ 1 _ _) _ _ _ _ _ _; simp only [zg_lp]; rw [if_pos hlv, hz_48]; try simp only []; rw [htk]; exact ⟨rfl, rfl, rfl, (congrArg (· :: ST) (show zl_op 62 r_1 r_48 = nI 0 by simp [zl_op, c82]))⟩) rfl dX8_compared_90
            have c82 : ¬ r_1 ≤ r_48 := c82
            refine lv_iconst (v := nI 1) Z.1 Z.2.1 dX8_compared_85 (by decide +kernel) ?_
            refine lv_goto (tgt := 90) Z.1 Z.2.1 dX8_compared_86 (by decide) ?_
            exact zk_reti Z hR_ hlk hK hQ G (p1_48, -1, nI op) (by simp only [zg]; rw [if_pos (by decide), hz_1]; try simp only []; show zm_post (zg_lp _ _ _ _ _ 1 _ _) _ _ _ _ _ _; simp only [zg_lp]; rw [if_pos hlv, hz_48]; try simp only []; rw [htk]; exact ⟨rfl, rfl, rfl, (congrArg (· :: ST) (show zl_op 62 r_1 r_48 = nI 1 by simp [zl_op, c82]))⟩) rfl dX8_compared_90
          exfalso
          have c69 : zg_c (zm_tx tb TP TX) ln p1_1 = 61 := zk_eq (by omega) (by omega) c69
          omega
        exfalso
        have c55 : zg_c (zm_tx tb TP TX) ln p1_1 = 60 := zk_eq (by omega) (by omega) c55
        omega
    have c32 : zg_c (zm_tx tb TP TX) ln p1_1 ≠ 62 := zk_neq (by omega) (by omega) c32
    have hst9 : ¬ zg_lev (zg_c (zm_tx tb TP TX) ln p1_1) = 2 := fun q9 => (zg_lev_2c.mp q9).elim c20 (fun q8 => q8.elim c26 c32)
    refine lv_iload_n Z.1 Z.2.1 dX8_compared_35 rfl (lv_at hl 1 rfl) ?_
    exact zk_reti Z hR_ hlk hK hQ G (p1_1, -1, nI op) (by simp only [zg]; rw [if_pos (by decide), hz_1]; try simp only []; rw [zg_lp_stop hst9]; exact ⟨rfl, rfl, rfl, rfl⟩) rfl dX8_compared_36

theorem gmX8_one_X8_byteAt : GoodIn wmX8_one (wsV RX8 176 RX8 yX8_byteAt wmX8_byteAt) := goodIn_app (wa8_w (List.forall_mem_cons.mpr ⟨wa8_107, List.forall_mem_cons.mpr ⟨wa8_108, List.forall_mem_cons.mpr ⟨wa8_109, List.forall_mem_cons.mpr ⟨wa8_43, fun _ h => absurd h List.not_mem_nil⟩⟩⟩⟩)) (wa8_sub wa8_100)
theorem gmX8_one_X8_one : GoodIn wmX8_one (wsV RX8 195 RX8 yX8_one wmX8_one) := goodIn_app (wa8_w (List.forall_mem_cons.mpr ⟨wa8_133, List.forall_mem_cons.mpr ⟨wa8_134, List.forall_mem_cons.mpr ⟨wa8_135, List.forall_mem_cons.mpr ⟨wa8_43, fun _ h => absurd h List.not_mem_nil⟩⟩⟩⟩)) (wa8_sub wa8_125)
theorem gmX8_one_X8_wrong : GoodIn wmX8_one (wsV RX8 201 RX8 yX8_wrong wmX8_wrong) := goodIn_app (wa8_w (List.forall_mem_cons.mpr ⟨wa8_127, List.forall_mem_cons.mpr ⟨wa8_128, List.forall_mem_cons.mpr ⟨wa8_129, List.forall_mem_cons.mpr ⟨wa8_43, fun _ h => absurd h List.not_mem_nil⟩⟩⟩⟩)) (wa8_sub wa8_104)
theorem gmX8_one_X8_nameOf : GoodIn wmX8_one (va_wsS RX8 207 yX8_nameOf wmX8_nameOf) := goodIn_app (wa8_w (List.forall_mem_cons.mpr ⟨wa8_136, List.forall_mem_cons.mpr ⟨wa8_137, List.forall_mem_cons.mpr ⟨wa8_43, fun _ h => absurd h List.not_mem_nil⟩⟩⟩)) (wa8_sub wa8_138)
theorem gmX8_one_X8_either : GoodIn wmX8_one (wsV RX8 204 RX8 yX8_either wmX8_either) := goodIn_app (wa8_w (List.forall_mem_cons.mpr ⟨wa8_130, List.forall_mem_cons.mpr ⟨wa8_131, List.forall_mem_cons.mpr ⟨wa8_132, List.forall_mem_cons.mpr ⟨wa8_43, fun _ h => absurd h List.not_mem_nil⟩⟩⟩⟩)) (wa8_sub wa8_110)
theorem gmX8_one_X8_takes : GoodIn wmX8_one (wsV RX8 183 RX8 yX8_takes wmX8_takes) := goodIn_app (wa8_w (List.forall_mem_cons.mpr ⟨wa8_114, List.forall_mem_cons.mpr ⟨wa8_115, List.forall_mem_cons.mpr ⟨wa8_116, List.forall_mem_cons.mpr ⟨wa8_43, fun _ h => absurd h List.not_mem_nil⟩⟩⟩⟩)) (wa8_sub wa8_106)
set_option maxRecDepth 100000 in
set_option maxHeartbeats 2000000 in
theorem ct_X8_one_s (l : Launch) (D : va_G) (g : Nat → ClassId) (τ : Nat → Nat) (d : Nat) (ih : zm_L0 l D g τ d ∧ zm_L1 l D g τ d ∧ zm_L2 l D g τ d ∧ zm_L3 l D g τ d ∧ zm_L4 l D g τ d ∧ zm_L5 l D g τ d) : zm_L5 l D g τ (d + 1) := by
  intro b m ln p op tb TP TX NM ST hln hp ht hop hd
  refine zk_of (av := [.ref (b 100)]) (W0 := [(b 100, .inr (8, [.ref (b 0), .ref (b 1), .ref (b 2), .ref (b 3), .int (m 4), .int (m 5), .int (m 6), .int (m 7), .ref (b 8), .int (m 9), .ref (b 10), .int (m 11), .int (zm_bs tb), .int (nI p), .int (nI ln), .int (-1), .int (nI op), .ref (b 17), .ref (b 18), .ref (b 19), .ref (b 20), .ref (b 21), .ref (b 22), .ref (b 23), .ref (b 24), .int (m 25), .int (m 26), .int (m 27), .int (m 28), .ref (b 29), .ref (b 30), .int (m 31), .int (m 32), .int (m 33), .int (m 34), .int (m 35), .ref (b 36), .ref (b 37), .int (m 38), .ref (b 39), .ref (b 40), .int (m 41), .int (m 42), .int (m 43), .ref (b 44), .ref (b 45), .ref (b 46), .ref (b 47)])), (b 8, .inl (g 0, 120, .inl (fun i => nI (TP i)))), (b 10, .inl (g 0, 120, .inl (fun i => nI (TX i)))), (b 17, .inl (g 0, 6, .inl NM))]) (y := yX8_one) (wd := wmX8_one) (Qc := fun A => va_Qi (fun (r : Int32) (uu : Nat × Int32 × Int32) => zm_post (zg (zm_tx tb TP TX) ln (zm_em NM) (d + 1) 5 op p ST) r uu.1 uu.2.1 op uu.2.2 ST) (zk_B D g A (fun (uu : Nat × Int32 × Int32) => [(b 100, .inr (8, [.ref (b 0), .ref (b 1), .ref (b 2), .ref (b 3), .int (m 4), .int (m 5), .int (m 6), .int (m 7), .ref (b 8), .int (m 9), .ref (b 10), .int (m 11), .int (zm_bs tb), .int (nI uu.1), .int (nI ln), .int uu.2.1, .int uu.2.2, .ref (b 17), .ref (b 18), .ref (b 19), .ref (b 20), .ref (b 21), .ref (b 22), .ref (b 23), .ref (b 24), .int (m 25), .int (m 26), .int (m 27), .int (m 28), .ref (b 29), .ref (b 30), .int (m 31), .int (m 32), .int (m 33), .int (m 34), .int (m 35), .ref (b 36), .ref (b 37), .int (m 38), .ref (b 39), .ref (b 40), .int (m 41), .int (m 42), .int (m 43), .ref (b 44), .ref (b 45), .ref (b 46), .ref (b 47)])), (b 8, .inl (g 0, 120, .inl (fun i => nI (TP i)))), (b 10, .inl (g 0, 120, .inl (fun i => nI (TX i)))), (b 17, .inl (g 0, 6, .inl NM))])) A) (cc := cX8_one) (maxL := 5) (ret := (some .int)) (own := RX8) (by decide) rfl rfl (Nat.le_of_ble_eq_true rfl) ?_
  intro pP eE sS mM args below meth cC aA ls qQ Z hR_ hlk hnm hK hT hA hQ G hl
  have hinX8 : ∀ w ∈ u_ws RX8 TX8 48, w ∈ wmX8_one := wa8_in
  refine lv_aload_n Z.1 Z.2.1 dX8_one_0 rfl (lv_at hl 0 rfl) ?_
  refine zk_get (C := RX8) (T := TX8) (N := 48) (ci := 8) Z hK G hinX8 0 rfl rfl 15 (by decide) (List.mem_cons_of_mem _ wa8_105) rfl (v := .int (-1)) rfl dX8_one_1 ?_
  refine lv_if_lt (tgt := 9) Z.1 Z.2.1 dX8_one_4 (by decide) (fun c4 => ?_) (fun c4 => ?_)
  · have c4 : ((-1) : Int32) < 0 := c4
    refine lv_aload_n Z.1 Z.2.1 dX8_one_9 rfl (lv_at hl 0 rfl) ?_
    refine zk_ci (WF := fun (_ : Unit) => [(b 100, .inr (8, [.ref (b 0), .ref (b 1), .ref (b 2), .ref (b 3), .int (m 4), .int (m 5), .int (m 6), .int (m 7), .ref (b 8), .int (m 9), .ref (b 10), .int (m 11), .int (zm_bs tb), .int (nI p), .int (nI ln), .int (-1), .int (nI op), .ref (b 17), .ref (b 18), .ref (b 19), .ref (b 20), .ref (b 21), .ref (b 22), .ref (b 23), .ref (b 24), .int (m 25), .int (m 26), .int (m 27), .int (m 28), .ref (b 29), .ref (b 30), .int (m 31), .int (m 32), .int (m 33), .int (m 34), .int (m 35), .ref (b 36), .ref (b 37), .int (m 38), .ref (b 39), .ref (b 40), .int (m 41), .int (m 42), .int (m 43), .ref (b 44), .ref (b 45), .ref (b 46), .ref (b 47)])), (b 8, .inl (g 0, 120, .inl (fun i => nI (TP i)))), (b 10, .inl (g 0, 120, .inl (fun i => nI (TX i)))), (b 17, .inl (g 0, 6, .inl NM))]) (wr := [(b 17, .inl (g 0, 6, .inl NM))]) ⟨rfl, rfl⟩ (zk_rv (As := []) (rest := []) (q0 := 0) (ci := 8) Z ((ct_X8_byteAt l D g τ b m ln p (-1) tb TP TX (nI op) (by exact hln) (by exact hp)) sS.heap.size) hK hT hA G [0, 1, 2] rfl (by decide) rfl rfl gmX8_one_X8_byteAt rfl dvX8_byteAt ⟨by first | decide | (simp only [rm_X8_either, rm_X8_both, rm_X8_compared, rm_X8_sums, rm_X8_product, rm_X8_one]; omega), by first | decide | (simp only [rm_X8_either, rm_X8_both, rm_X8_compared, rm_X8_sums, rm_X8_product, rm_X8_one]; omega)⟩ rfl hl.1 rfl (Nat.le_of_ble_eq_true rfl) dX8_one_10 ⟨Nat.zero_le _, Nat.zero_le _⟩) hA G [0, 1, 2] [3] [1, 2, 3, 0] rfl rfl (by decide) (by decide) (by decide) (fun _ => rfl) (fun r_10 _ H locs w_10 G => ?_)
    obtain rfl : r_10 = nI (zg_c (zm_tx tb TP TX) ln p) := w_10
    have hcb := zg_c_256 (ln := ln) ht p
    refine lv_istore_n (lv' := [(1, .int (nI (zg_c (zm_tx tb TP TX) ln p))), (0, .ref (b 100))]) Z.1 Z.2.1 dX8_one_13 rfl hl (by decide) rfl (fun ls hl => ?_)
    refine lv_iload_n Z.1 Z.2.1 dX8_one_14 rfl (lv_at hl 0 rfl) ?_
    refine lv_bipush (v := nI 33) Z.1 Z.2.1 dX8_one_15 (by decide +kernel) ?_
    refine lv_icmp_eq (tgt := 32) Z.1 Z.2.1 dX8_one_17 (by decide) (fun c17 => ?_) (fun c17 => ?_)
    · have c17 : zg_c (zm_tx tb TP TX) ln p = 33 := zk_eq (by omega) (by omega) c17
      have htk : zg_c (zm_tx tb TP TX) ln p = 33 := c17
      have hpl : p < ln := zg_c_lt (tp := (zm_tx tb TP TX)) (by rw [htk]; decide)
      refine lv_aload_n Z.1 Z.2.1 dX8_one_32 rfl (lv_at hl 1 rfl) ?_
      refine zk_get (C := RX8) (T := TX8) (N := 48) (ci := 8) Z hK G hinX8 0 rfl rfl 16 (by decide) (List.mem_cons_of_mem _ wa8_126) rfl (v := .int (nI op)) rfl dX8_one_33 ?_
      refine lv_bipush (v := nI 6) Z.1 Z.2.1 dX8_one_36 (by decide +kernel) ?_
      refine lv_icmp_ne (tgt := 46) Z.1 Z.2.1 dX8_one_38 (by decide) (fun c38 => ?_) (fun c38 => ?_)
      · have c38 : op ≠ 6 := zk_neq (by omega) (by omega) c38
        have hop6 : op < 6 := by omega
        refine lv_aload_n Z.1 Z.2.1 dX8_one_46 rfl (lv_at hl 1 rfl) ?_
        refine lv_dup Z.1 Z.2.1 dX8_one_47 rfl ?_
        refine zk_get (C := RX8) (T := TX8) (N := 48) (ci := 8) Z hK G hinX8 0 rfl rfl 16 (by decide) (List.mem_cons_of_mem _ wa8_126) rfl (v := .int (nI op)) rfl dX8_one_48 ?_
        refine lv_iconst (v := nI 1) Z.1 Z.2.1 dX8_one_51 (by decide +kernel) ?_
        refine zk_iadd Z dX8_one_52 (z := nI (op + 1)) (nI_add _ _) ?_
        refine zk_put tyX8 tyX8_ok nmX8 (C := RX8) (T := TX8) (N := 48) (ci := 8) Z hK G hinX8 0 rfl rfl 16 (by decide) (List.mem_cons_of_mem _ wa8_126) rfl rfl rfl rfl (Nat.le_of_ble_eq_true rfl) (ws' := [(b 100, .inr (8, [.ref (b 0), .ref (b 1), .ref (b 2), .ref (b 3), .int (m 4), .int (m 5), .int (m 6), .int (m 7), .ref (b 8), .int (m 9), .ref (b 10), .int (m 11), .int (zm_bs tb), .int (nI p), .int (nI ln), .int (-1), .int (nI (op + 1)), .ref (b 17), .ref (b 18), .ref (b 19), .ref (b 20), .ref (b 21), .ref (b 22), .ref (b 23), .ref (b 24), .int (m 25), .int (m 26), .int (m 27), .int (m 28), .ref (b 29), .ref (b 30), .int (m 31), .int (m 32), .int (m 33), .int (m 34), .int (m 35), .ref (b 36), .ref (b 37), .int (m 38), .ref (b 39), .ref (b 40), .int (m 41), .int (m 42), .int (m 43), .ref (b 44), .ref (b 45), .ref (b 46), .ref (b 47)])), (b 8, .inl (g 0, 120, .inl (fun i => nI (TP i)))), (b 10, .inl (g 0, 120, .inl (fun i => nI (TX i)))), (b 17, .inl (g 0, 6, .inl NM))]) rfl dX8_one_53 (fun H locs G => ?_)
        refine lv_aload_n Z.1 Z.2.1 dX8_one_56 rfl (lv_at hl 1 rfl) ?_
        refine lv_dup Z.1 Z.2.1 dX8_one_57 rfl ?_
        refine zk_get (C := RX8) (T := TX8) (N := 48) (ci := 8) Z hK G hinX8 0 rfl rfl 13 (by decide) (List.mem_cons_of_mem _ wa8_101) rfl (v := .int (nI p)) rfl dX8_one_58 ?_
        refine lv_iconst (v := nI 1) Z.1 Z.2.1 dX8_one_61 (by decide +kernel) ?_
        refine zk_iadd Z dX8_one_62 (z := nI (p + 1)) (nI_add _ _) ?_
        refine zk_put tyX8 tyX8_ok nmX8 (C := RX8) (T := TX8) (N := 48) (ci := 8) Z hK G hinX8 0 rfl rfl 13 (by decide) (List.mem_cons_of_mem _ wa8_101) rfl rfl rfl rfl (Nat.le_of_ble_eq_true rfl) (ws' := [(b 100, .inr (8, [.ref (b 0), .ref (b 1), .ref (b 2), .ref (b 3), .int (m 4), .int (m 5), .int (m 6), .int (m 7), .ref (b 8), .int (m 9), .ref (b 10), .int (m 11), .int (zm_bs tb), .int (nI (p + 1)), .int (nI ln), .int (-1), .int (nI (op + 1)), .ref (b 17), .ref (b 18), .ref (b 19), .ref (b 20), .ref (b 21), .ref (b 22), .ref (b 23), .ref (b 24), .int (m 25), .int (m 26), .int (m 27), .int (m 28), .ref (b 29), .ref (b 30), .int (m 31), .int (m 32), .int (m 33), .int (m 34), .int (m 35), .ref (b 36), .ref (b 37), .int (m 38), .ref (b 39), .ref (b 40), .int (m 41), .int (m 42), .int (m 43), .ref (b 44), .ref (b 45), .ref (b 46), .ref (b 47)])), (b 8, .inl (g 0, 120, .inl (fun i => nI (TP i)))), (b 10, .inl (g 0, 120, .inl (fun i => nI (TX i)))), (b 17, .inl (g 0, 6, .inl NM))]) rfl dX8_one_63 (fun H locs G => ?_)
        refine lv_iload_n Z.1 Z.2.1 dX8_one_66 rfl (lv_at hl 0 rfl) ?_
        refine lv_bipush (v := nI 40) Z.1 Z.2.1 dX8_one_67 (by decide +kernel) ?_
        refine lv_icmp_ne (tgt := 79) Z.1 Z.2.1 dX8_one_69 (by decide) (fun c69 => ?_) (fun c69 => ?_)
        · have c69 : zg_c (zm_tx tb TP TX) ln p ≠ 40 := zk_neq (by omega) (by omega) c69
          refine lv_aload_n Z.1 Z.2.1 dX8_one_79 rfl (lv_at hl 1 rfl) ?_
          refine zk_ci (WF := fun uu => [(b 100, .inr (8, [.ref (b 0), .ref (b 1), .ref (b 2), .ref (b 3), .int (m 4), .int (m 5), .int (m 6), .int (m 7), .ref (b 8), .int (m 9), .ref (b 10), .int (m 11), .int (zm_bs tb), .int (nI uu.1), .int (nI ln), .int uu.2.1, .int uu.2.2, .ref (b 17), .ref (b 18), .ref (b 19), .ref (b 20), .ref (b 21), .ref (b 22), .ref (b 23), .ref (b 24), .int (m 25), .int (m 26), .int (m 27), .int (m 28), .ref (b 29), .ref (b 30), .int (m 31), .int (m 32), .int (m 33), .int (m 34), .int (m 35), .ref (b 36), .ref (b 37), .int (m 38), .ref (b 39), .ref (b 40), .int (m 41), .int (m 42), .int (m 43), .ref (b 44), .ref (b 45), .ref (b 46), .ref (b 47)])), (b 8, .inl (g 0, 120, .inl (fun i => nI (TP i)))), (b 10, .inl (g 0, 120, .inl (fun i => nI (TX i)))), (b 17, .inl (g 0, 6, .inl NM))]) (wr := []) ⟨rfl, rfl⟩ (zk_rv (As := []) (rest := []) (q0 := 0) (ci := 8) Z ((ih.2.2.2.2.2 b m ln (p + 1) (op + 1) tb TP TX NM ST (by exact hln) (by omega) (by exact ht) (by omega) (by omega)) H.size) hK hT hA G [0, 1, 2, 3] rfl (by decide) rfl rfl gmX8_one_X8_one rfl dvX8_one ⟨by first | decide | (simp only [rm_X8_either, rm_X8_both, rm_X8_compared, rm_X8_sums, rm_X8_product, rm_X8_one]; omega), by first | decide | (simp only [rm_X8_either, rm_X8_both, rm_X8_compared, rm_X8_sums, rm_X8_product, rm_X8_one]; omega)⟩ rfl hl.1 rfl (Nat.le_of_ble_eq_true rfl) dX8_one_80 ⟨Nat.zero_le _, Nat.zero_le _⟩) hA G [0, 1, 2, 3] [] [0, 1, 2, 3] rfl rfl (by decide) (by decide) (by decide) (fun _ => rfl) (fun r_80 uu H locs w_80 G => ?_)
          obtain ⟨p1_80, ft1_80, oq1_80⟩ := uu
          have G : zk_G D aA [(b 100, .inr (8, [.ref (b 0), .ref (b 1), .ref (b 2), .ref (b 3), .int (m 4), .int (m 5), .int (m 6), .int (m 7), .ref (b 8), .int (m 9), .ref (b 10), .int (m 11), .int (zm_bs tb), .int (nI p1_80), .int (nI ln), .int ft1_80, .int oq1_80, .ref (b 17), .ref (b 18), .ref (b 19), .ref (b 20), .ref (b 21), .ref (b 22), .ref (b 23), .ref (b 24), .int (m 25), .int (m 26), .int (m 27), .int (m 28), .ref (b 29), .ref (b 30), .int (m 31), .int (m 32), .int (m 33), .int (m 34), .int (m 35), .ref (b 36), .ref (b 37), .int (m 38), .ref (b 39), .ref (b 40), .int (m 41), .int (m 42), .int (m 43), .ref (b 44), .ref (b 45), .ref (b 46), .ref (b 47)])), (b 8, .inl (g 0, 120, .inl (fun i => nI (TP i)))), (b 10, .inl (g 0, 120, .inl (fun i => nI (TX i)))), (b 17, .inl (g 0, 6, .inl NM))] sS H locs := G
          have zb_80 := zg_le (em := zm_em NM) (ln := ln) ht d 5 (op + 1) (p + 1) (ST) (by omega) (by omega) (by omega) (by omega)
          rcases hz_80 : zg (zm_tx tb TP TX) ln (zm_em NM) d 5 (op + 1) (p + 1) ST with e | ⟨a9, s9⟩
          · obtain ⟨h1_80, h2_80⟩ := zm_pl w_80 hz_80
            obtain rfl : p1_80 = e := h1_80
            obtain rfl : ft1_80 = nI p1_80 := h2_80
            have hb_80 := zb_80
            rw [hz_80] at hb_80
            have hp_80 : p1_80 ≤ ln := hb_80.2
            refine lv_istore_n (lv' := [(2, .int r_80), (1, .int (nI (zg_c (zm_tx tb TP TX) ln p))), (0, .ref (b 100))]) Z.1 Z.2.1 dX8_one_83 rfl hl (by decide) rfl (fun ls hl => ?_)
            refine lv_iload_n Z.1 Z.2.1 dX8_one_84 rfl (lv_at hl 1 rfl) ?_
            refine lv_bipush (v := nI 40) Z.1 Z.2.1 dX8_one_85 (by decide +kernel) ?_
            refine lv_icmp_ne (tgt := 104) Z.1 Z.2.1 dX8_one_87 (by decide) (fun c87 => ?_) (fun c87 => ?_)
            · have c87 : zg_c (zm_tx tb TP TX) ln p ≠ 40 := zk_neq (by omega) (by omega) c87
              refine lv_aload_n Z.1 Z.2.1 dX8_one_104 rfl (lv_at hl 2 rfl) ?_
              refine lv_dup Z.1 Z.2.1 dX8_one_105 rfl ?_
              refine zk_get (C := RX8) (T := TX8) (N := 48) (ci := 8) Z hK G hinX8 0 rfl rfl 16 (by decide) (List.mem_cons_of_mem _ wa8_126) rfl (v := .int oq1_80) rfl dX8_one_106 ?_
              refine lv_iconst (v := nI 1) Z.1 Z.2.1 dX8_one_109 (by decide +kernel) ?_
              refine zk_isub Z dX8_one_110 (z := oq1_80 - (nI 1)) rfl ?_
              refine zk_put tyX8 tyX8_ok nmX8 (C := RX8) (T := TX8) (N := 48) (ci := 8) Z hK G hinX8 0 rfl rfl 16 (by decide) (List.mem_cons_of_mem _ wa8_126) rfl rfl rfl rfl (Nat.le_of_ble_eq_true rfl) (ws' := [(b 100, .inr (8, [.ref (b 0), .ref (b 1), .ref (b 2), .ref (b 3), .int (m 4), .int (m 5), .int (m 6), .int (m 7), .ref (b 8), .int (m 9), .ref (b 10), .int (m 11), .int (zm_bs tb), .int (nI p1_80), .int (nI ln), .int (nI p1_80), .int (oq1_80 - (nI 1)), .ref (b 17), .ref (b 18), .ref (b 19), .ref (b 20), .ref (b 21), .ref (b 22), .ref (b 23), .ref (b 24), .int (m 25), .int (m 26), .int (m 27), .int (m 28), .ref (b 29), .ref (b 30), .int (m 31), .int (m 32), .int (m 33), .int (m 34), .int (m 35), .ref (b 36), .ref (b 37), .int (m 38), .ref (b 39), .ref (b 40), .int (m 41), .int (m 42), .int (m 43), .ref (b 44), .ref (b 45), .ref (b 46), .ref (b 47)])), (b 8, .inl (g 0, 120, .inl (fun i => nI (TP i)))), (b 10, .inl (g 0, 120, .inl (fun i => nI (TX i)))), (b 17, .inl (g 0, 6, .inl NM))]) rfl dX8_one_111 (fun H locs G => ?_)
              refine lv_iload_n Z.1 Z.2.1 dX8_one_114 rfl (lv_at hl 1 rfl) ?_
              refine lv_bipush (v := nI 40) Z.1 Z.2.1 dX8_one_115 (by decide +kernel) ?_
              refine lv_icmp_ne (tgt := 124) Z.1 Z.2.1 dX8_one_117 (by decide) (fun c117 => ?_) (fun c117 => ?_)
              · have c117 : zg_c (zm_tx tb TP TX) ln p ≠ 40 := zk_neq (by omega) (by omega) c117
                refine lv_iload_n Z.1 Z.2.1 dX8_one_124 rfl (lv_at hl 1 rfl) ?_
                refine lv_bipush (v := nI 45) Z.1 Z.2.1 dX8_one_125 (by decide +kernel) ?_
                refine lv_icmp_ne (tgt := 135) Z.1 Z.2.1 dX8_one_127 (by decide) (fun c127 => ?_) (fun c127 => ?_)
                · have c127 : zg_c (zm_tx tb TP TX) ln p ≠ 45 := zk_neq (by omega) (by omega) c127
                  refine lv_iload_n Z.1 Z.2.1 dX8_one_135 rfl (lv_at hl 0 rfl) ?_
                  refine lv_if_ne (tgt := 143) Z.1 Z.2.1 dX8_one_136 (by decide) (fun c136 => ?_) (fun c136 => ?_)
                  · have c136 : ¬ r_80 = 0 := c136
                    refine lv_iconst (v := nI 0) Z.1 Z.2.1 dX8_one_143 (by decide +kernel) ?_
                    exact zk_reti Z hR_ hlk hK hQ G (p1_80, nI p1_80, oq1_80 - nI 1) (by simp only [zg]; rw [if_neg (by decide), if_neg (by rw [htk]; decide), if_neg (by rw [htk]; decide), if_neg (by rw [htk]; omega), if_neg (by rw [htk]; decide), hz_80]; exact ⟨rfl, rfl⟩) rfl dX8_one_144
                  have c136 : r_80 = 0 := c136
                  refine lv_iconst (v := nI 1) Z.1 Z.2.1 dX8_one_139 (by decide +kernel) ?_
                  refine lv_goto (tgt := 144) Z.1 Z.2.1 dX8_one_140 (by decide) ?_
                  exact zk_reti Z hR_ hlk hK hQ G (p1_80, nI p1_80, oq1_80 - nI 1) (by simp only [zg]; rw [if_neg (by decide), if_neg (by rw [htk]; decide), if_neg (by rw [htk]; decide), if_neg (by rw [htk]; omega), if_neg (by rw [htk]; decide), hz_80]; exact ⟨rfl, rfl⟩) rfl dX8_one_144
                exfalso
                have c127 : zg_c (zm_tx tb TP TX) ln p = 45 := zk_eq (by omega) (by omega) c127
                omega
              exfalso
              have c117 : zg_c (zm_tx tb TP TX) ln p = 40 := zk_eq (by omega) (by omega) c117
              omega
            exfalso
            have c87 : zg_c (zm_tx tb TP TX) ln p = 40 := zk_eq (by omega) (by omega) c87
            omega
          · obtain ⟨h1_80, h2_80, h3_80, h4_80⟩ := zm_pr w_80 hz_80
            obtain rfl : p1_80 = a9 := h1_80
            obtain rfl : ft1_80 = -1 := h2_80
            obtain rfl : oq1_80 = nI (op + 1) := h3_80
            obtain rfl : s9 = r_80 :: ST := h4_80
            have hb_80 := zb_80
            rw [hz_80] at hb_80
            have hp_80 : p1_80 ≤ ln := hb_80.2
            have hq_80 : p + 1 ≤ p1_80 := hb_80.1
            refine lv_istore_n (lv' := [(2, .int r_80), (1, .int (nI (zg_c (zm_tx tb TP TX) ln p))), (0, .ref (b 100))]) Z.1 Z.2.1 dX8_one_83 rfl hl (by decide) rfl (fun ls hl => ?_)
            refine lv_iload_n Z.1 Z.2.1 dX8_one_84 rfl (lv_at hl 1 rfl) ?_
            refine lv_bipush (v := nI 40) Z.1 Z.2.1 dX8_one_85 (by decide +kernel) ?_
            refine lv_icmp_ne (tgt := 104) Z.1 Z.2.1 dX8_one_87 (by decide) (fun c87 => ?_) (fun c87 => ?_)
            · have c87 : zg_c (zm_tx tb TP TX) ln p ≠ 40 := zk_neq (by omega) (by omega) c87
              refine lv_aload_n Z.1 Z.2.1 dX8_one_104 rfl (lv_at hl 2 rfl) ?_
              refine lv_dup Z.1 Z.2.1 dX8_one_105 rfl ?_
              refine zk_get (C := RX8) (T := TX8) (N := 48) (ci := 8) Z hK G hinX8 0 rfl rfl 16 (by decide) (List.mem_cons_of_mem _ wa8_126) rfl (v := .int (nI (op + 1))) rfl dX8_one_106 ?_
              refine lv_iconst (v := nI 1) Z.1 Z.2.1 dX8_one_109 (by decide +kernel) ?_
              refine zk_isub Z dX8_one_110 (z := nI ((op + 1) - 1)) (pk_sub (by omega)) ?_
              refine zk_put tyX8 tyX8_ok nmX8 (C := RX8) (T := TX8) (N := 48) (ci := 8) Z hK G hinX8 0 rfl rfl 16 (by decide) (List.mem_cons_of_mem _ wa8_126) rfl rfl rfl rfl (Nat.le_of_ble_eq_true rfl) (ws' := [(b 100, .inr (8, [.ref (b 0), .ref (b 1), .ref (b 2), .ref (b 3), .int (m 4), .int (m 5), .int (m 6), .int (m 7), .ref (b 8), .int (m 9), .ref (b 10), .int (m 11), .int (zm_bs tb), .int (nI p1_80), .int (nI ln), .int (-1), .int (nI ((op + 1) - 1)), .ref (b 17), .ref (b 18), .ref (b 19), .ref (b 20), .ref (b 21), .ref (b 22), .ref (b 23), .ref (b 24), .int (m 25), .int (m 26), .int (m 27), .int (m 28), .ref (b 29), .ref (b 30), .int (m 31), .int (m 32), .int (m 33), .int (m 34), .int (m 35), .ref (b 36), .ref (b 37), .int (m 38), .ref (b 39), .ref (b 40), .int (m 41), .int (m 42), .int (m 43), .ref (b 44), .ref (b 45), .ref (b 46), .ref (b 47)])), (b 8, .inl (g 0, 120, .inl (fun i => nI (TP i)))), (b 10, .inl (g 0, 120, .inl (fun i => nI (TX i)))), (b 17, .inl (g 0, 6, .inl NM))]) rfl dX8_one_111 (fun H locs G => ?_)
              refine lv_iload_n Z.1 Z.2.1 dX8_one_114 rfl (lv_at hl 1 rfl) ?_
              refine lv_bipush (v := nI 40) Z.1 Z.2.1 dX8_one_115 (by decide +kernel) ?_
              refine lv_icmp_ne (tgt := 124) Z.1 Z.2.1 dX8_one_117 (by decide) (fun c117 => ?_) (fun c117 => ?_)
              · have c117 : zg_c (zm_tx tb TP TX) ln p ≠ 40 := zk_neq (by omega) (by omega) c117
                refine lv_iload_n Z.1 Z.2.1 dX8_one_124 rfl (lv_at hl 1 rfl) ?_
                refine lv_bipush (v := nI 45) Z.1 Z.2.1 dX8_one_125 (by decide +kernel) ?_
                refine lv_icmp_ne (tgt := 135) Z.1 Z.2.1 dX8_one_127 (by decide) (fun c127 => ?_) (fun c127 => ?_)
                · have c127 : zg_c (zm_tx tb TP TX) ln p ≠ 45 := zk_neq (by omega) (by omega) c127
                  refine lv_iload_n Z.1 Z.2.1 dX8_one_135 rfl (lv_at hl 0 rfl) ?_
                  refine lv_if_ne (tgt := 143) Z.1 Z.2.1 dX8_one_136 (by decide) (fun c136 => ?_) (fun c136 => ?_)
                  · have c136 : ¬ r_80 = 0 := c136
                    refine lv_iconst (v := nI 0) Z.1 Z.2.1 dX8_one_143 (by decide +kernel) ?_
                    exact zk_reti Z hR_ hlk hK hQ G (p1_80, -1, nI (op + 1 - 1)) (by simp only [zg]; rw [if_neg (by decide), if_neg (by rw [htk]; decide), if_neg (by rw [htk]; decide), if_neg (by rw [htk]; omega), if_neg (by rw [htk]; decide), hz_80]; try simp only []; rw [if_pos htk]; exact ⟨rfl, rfl, rfl, (congrArg (· :: ST) (show zl_op 6 r_80 r_80 = nI 0 from by simp [zl_op, c136]))⟩) rfl dX8_one_144
                  have c136 : r_80 = 0 := c136
                  refine lv_iconst (v := nI 1) Z.1 Z.2.1 dX8_one_139 (by decide +kernel) ?_
                  refine lv_goto (tgt := 144) Z.1 Z.2.1 dX8_one_140 (by decide) ?_
                  exact zk_reti Z hR_ hlk hK hQ G (p1_80, -1, nI (op + 1 - 1)) (by simp only [zg]; rw [if_neg (by decide), if_neg (by rw [htk]; decide), if_neg (by rw [htk]; decide), if_neg (by rw [htk]; omega), if_neg (by rw [htk]; decide), hz_80]; try simp only []; rw [if_pos htk]; exact ⟨rfl, rfl, rfl, (congrArg (· :: ST) (show zl_op 6 r_80 r_80 = nI 1 from by simp [zl_op, c136]))⟩) rfl dX8_one_144
                exfalso
                have c127 : zg_c (zm_tx tb TP TX) ln p = 45 := zk_eq (by omega) (by omega) c127
                omega
              exfalso
              have c117 : zg_c (zm_tx tb TP TX) ln p = 40 := zk_eq (by omega) (by omega) c117
              omega
            exfalso
            have c87 : zg_c (zm_tx tb TP TX) ln p = 40 := zk_eq (by omega) (by omega) c87
            omega
        exfalso
        have c69 : zg_c (zm_tx tb TP TX) ln p = 40 := zk_eq (by omega) (by omega) c69
        omega
      have c38 : op = 6 := zk_eq (by omega) (by omega) c38
      refine lv_aload_n Z.1 Z.2.1 dX8_one_41 rfl (lv_at hl 1 rfl) ?_
      refine zk_ci (WF := fun (_ : Unit) => [(b 100, .inr (8, [.ref (b 0), .ref (b 1), .ref (b 2), .ref (b 3), .int (m 4), .int (m 5), .int (m 6), .int (m 7), .ref (b 8), .int (m 9), .ref (b 10), .int (m 11), .int (zm_bs tb), .int (nI p), .int (nI ln), .int (if (-1) < 0 then nI p else (-1)), .int (nI op), .ref (b 17), .ref (b 18), .ref (b 19), .ref (b 20), .ref (b 21), .ref (b 22), .ref (b 23), .ref (b 24), .int (m 25), .int (m 26), .int (m 27), .int (m 28), .ref (b 29), .ref (b 30), .int (m 31), .int (m 32), .int (m 33), .int (m 34), .int (m 35), .ref (b 36), .ref (b 37), .int (m 38), .ref (b 39), .ref (b 40), .int (m 41), .int (m 42), .int (m 43), .ref (b 44), .ref (b 45), .ref (b 46), .ref (b 47)])), (b 8, .inl (g 0, 120, .inl (fun i => nI (TP i)))), (b 10, .inl (g 0, 120, .inl (fun i => nI (TX i)))), (b 17, .inl (g 0, 6, .inl NM))]) (wr := [(b 8, .inl (g 0, 120, .inl (fun i => nI (TP i)))), (b 10, .inl (g 0, 120, .inl (fun i => nI (TX i)))), (b 17, .inl (g 0, 6, .inl NM))]) ⟨rfl, rfl⟩ (zk_rv (As := []) (rest := []) (q0 := 0) (ci := 8) Z ((ct_X8_wrong l D g τ b m ln p (-1) tb (nI op) ) H.size) hK hT hA G [0] rfl (by decide) rfl rfl gmX8_one_X8_wrong rfl dvX8_wrong ⟨by first | decide | (simp only [rm_X8_either, rm_X8_both, rm_X8_compared, rm_X8_sums, rm_X8_product, rm_X8_one]; omega), by first | decide | (simp only [rm_X8_either, rm_X8_both, rm_X8_compared, rm_X8_sums, rm_X8_product, rm_X8_one]; omega)⟩ rfl hl.1 rfl (Nat.le_of_ble_eq_true rfl) dX8_one_42 ⟨Nat.zero_le _, Nat.zero_le _⟩) hA G [0] [1, 2, 3] [3, 0, 1, 2] rfl rfl (by decide) (by decide) (by decide) (fun _ => rfl) (fun r_42 _ H locs w_42 G => ?_)
      obtain rfl : r_42 = nI 0 := w_42
      have G : zk_G D aA [(b 100, .inr (8, [.ref (b 0), .ref (b 1), .ref (b 2), .ref (b 3), .int (m 4), .int (m 5), .int (m 6), .int (m 7), .ref (b 8), .int (m 9), .ref (b 10), .int (m 11), .int (zm_bs tb), .int (nI p), .int (nI ln), .int (nI p), .int (nI op), .ref (b 17), .ref (b 18), .ref (b 19), .ref (b 20), .ref (b 21), .ref (b 22), .ref (b 23), .ref (b 24), .int (m 25), .int (m 26), .int (m 27), .int (m 28), .ref (b 29), .ref (b 30), .int (m 31), .int (m 32), .int (m 33), .int (m 34), .int (m 35), .ref (b 36), .ref (b 37), .int (m 38), .ref (b 39), .ref (b 40), .int (m 41), .int (m 42), .int (m 43), .ref (b 44), .ref (b 45), .ref (b 46), .ref (b 47)])), (b 8, .inl (g 0, 120, .inl (fun i => nI (TP i)))), (b 10, .inl (g 0, 120, .inl (fun i => nI (TX i)))), (b 17, .inl (g 0, 6, .inl NM))] sS H locs := (by rw [if_pos (by decide)] at G; exact G)
      exact zk_reti Z hR_ hlk hK hQ G (p, nI p, nI op) (by simp only [zg]; rw [if_neg (by decide), if_neg (by rw [htk]; decide), if_neg (by rw [htk]; decide), if_pos (Or.inl (by omega))]; exact ⟨rfl, rfl⟩) rfl dX8_one_45
    have c17 : zg_c (zm_tx tb TP TX) ln p ≠ 33 := zk_neq (by omega) (by omega) c17
    refine lv_iload_n Z.1 Z.2.1 dX8_one_20 rfl (lv_at hl 0 rfl) ?_
    refine lv_bipush (v := nI 45) Z.1 Z.2.1 dX8_one_21 (by decide +kernel) ?_
    refine lv_icmp_eq (tgt := 32) Z.1 Z.2.1 dX8_one_23 (by decide) (fun c23 => ?_) (fun c23 => ?_)
    · have c23 : zg_c (zm_tx tb TP TX) ln p = 45 := zk_eq (by omega) (by omega) c23
      have htk : zg_c (zm_tx tb TP TX) ln p = 45 := c23
      have hpl : p < ln := zg_c_lt (tp := (zm_tx tb TP TX)) (by rw [htk]; decide)
      refine lv_aload_n Z.1 Z.2.1 dX8_one_32 rfl (lv_at hl 1 rfl) ?_
      refine zk_get (C := RX8) (T := TX8) (N := 48) (ci := 8) Z hK G hinX8 0 rfl rfl 16 (by decide) (List.mem_cons_of_mem _ wa8_126) rfl (v := .int (nI op)) rfl dX8_one_33 ?_
      refine lv_bipush (v := nI 6) Z.1 Z.2.1 dX8_one_36 (by decide +kernel) ?_
      refine lv_icmp_ne (tgt := 46) Z.1 Z.2.1 dX8_one_38 (by decide) (fun c38 => ?_) (fun c38 => ?_)
      · have c38 : op ≠ 6 := zk_neq (by omega) (by omega) c38
        have hop6 : op < 6 := by omega
        refine lv_aload_n Z.1 Z.2.1 dX8_one_46 rfl (lv_at hl 1 rfl) ?_
        refine lv_dup Z.1 Z.2.1 dX8_one_47 rfl ?_
        refine zk_get (C := RX8) (T := TX8) (N := 48) (ci := 8) Z hK G hinX8 0 rfl rfl 16 (by decide) (List.mem_cons_of_mem _ wa8_126) rfl (v := .int (nI op)) rfl dX8_one_48 ?_
        refine lv_iconst (v := nI 1) Z.1 Z.2.1 dX8_one_51 (by decide +kernel) ?_
        refine zk_iadd Z dX8_one_52 (z := nI (op + 1)) (nI_add _ _) ?_
        refine zk_put tyX8 tyX8_ok nmX8 (C := RX8) (T := TX8) (N := 48) (ci := 8) Z hK G hinX8 0 rfl rfl 16 (by decide) (List.mem_cons_of_mem _ wa8_126) rfl rfl rfl rfl (Nat.le_of_ble_eq_true rfl) (ws' := [(b 100, .inr (8, [.ref (b 0), .ref (b 1), .ref (b 2), .ref (b 3), .int (m 4), .int (m 5), .int (m 6), .int (m 7), .ref (b 8), .int (m 9), .ref (b 10), .int (m 11), .int (zm_bs tb), .int (nI p), .int (nI ln), .int (-1), .int (nI (op + 1)), .ref (b 17), .ref (b 18), .ref (b 19), .ref (b 20), .ref (b 21), .ref (b 22), .ref (b 23), .ref (b 24), .int (m 25), .int (m 26), .int (m 27), .int (m 28), .ref (b 29), .ref (b 30), .int (m 31), .int (m 32), .int (m 33), .int (m 34), .int (m 35), .ref (b 36), .ref (b 37), .int (m 38), .ref (b 39), .ref (b 40), .int (m 41), .int (m 42), .int (m 43), .ref (b 44), .ref (b 45), .ref (b 46), .ref (b 47)])), (b 8, .inl (g 0, 120, .inl (fun i => nI (TP i)))), (b 10, .inl (g 0, 120, .inl (fun i => nI (TX i)))), (b 17, .inl (g 0, 6, .inl NM))]) rfl dX8_one_53 (fun H locs G => ?_)
        refine lv_aload_n Z.1 Z.2.1 dX8_one_56 rfl (lv_at hl 1 rfl) ?_
        refine lv_dup Z.1 Z.2.1 dX8_one_57 rfl ?_
        refine zk_get (C := RX8) (T := TX8) (N := 48) (ci := 8) Z hK G hinX8 0 rfl rfl 13 (by decide) (List.mem_cons_of_mem _ wa8_101) rfl (v := .int (nI p)) rfl dX8_one_58 ?_
        refine lv_iconst (v := nI 1) Z.1 Z.2.1 dX8_one_61 (by decide +kernel) ?_
        refine zk_iadd Z dX8_one_62 (z := nI (p + 1)) (nI_add _ _) ?_
        refine zk_put tyX8 tyX8_ok nmX8 (C := RX8) (T := TX8) (N := 48) (ci := 8) Z hK G hinX8 0 rfl rfl 13 (by decide) (List.mem_cons_of_mem _ wa8_101) rfl rfl rfl rfl (Nat.le_of_ble_eq_true rfl) (ws' := [(b 100, .inr (8, [.ref (b 0), .ref (b 1), .ref (b 2), .ref (b 3), .int (m 4), .int (m 5), .int (m 6), .int (m 7), .ref (b 8), .int (m 9), .ref (b 10), .int (m 11), .int (zm_bs tb), .int (nI (p + 1)), .int (nI ln), .int (-1), .int (nI (op + 1)), .ref (b 17), .ref (b 18), .ref (b 19), .ref (b 20), .ref (b 21), .ref (b 22), .ref (b 23), .ref (b 24), .int (m 25), .int (m 26), .int (m 27), .int (m 28), .ref (b 29), .ref (b 30), .int (m 31), .int (m 32), .int (m 33), .int (m 34), .int (m 35), .ref (b 36), .ref (b 37), .int (m 38), .ref (b 39), .ref (b 40), .int (m 41), .int (m 42), .int (m 43), .ref (b 44), .ref (b 45), .ref (b 46), .ref (b 47)])), (b 8, .inl (g 0, 120, .inl (fun i => nI (TP i)))), (b 10, .inl (g 0, 120, .inl (fun i => nI (TX i)))), (b 17, .inl (g 0, 6, .inl NM))]) rfl dX8_one_63 (fun H locs G => ?_)
        refine lv_iload_n Z.1 Z.2.1 dX8_one_66 rfl (lv_at hl 0 rfl) ?_
        refine lv_bipush (v := nI 40) Z.1 Z.2.1 dX8_one_67 (by decide +kernel) ?_
        refine lv_icmp_ne (tgt := 79) Z.1 Z.2.1 dX8_one_69 (by decide) (fun c69 => ?_) (fun c69 => ?_)
        · have c69 : zg_c (zm_tx tb TP TX) ln p ≠ 40 := zk_neq (by omega) (by omega) c69
          refine lv_aload_n Z.1 Z.2.1 dX8_one_79 rfl (lv_at hl 1 rfl) ?_
          refine zk_ci (WF := fun uu => [(b 100, .inr (8, [.ref (b 0), .ref (b 1), .ref (b 2), .ref (b 3), .int (m 4), .int (m 5), .int (m 6), .int (m 7), .ref (b 8), .int (m 9), .ref (b 10), .int (m 11), .int (zm_bs tb), .int (nI uu.1), .int (nI ln), .int uu.2.1, .int uu.2.2, .ref (b 17), .ref (b 18), .ref (b 19), .ref (b 20), .ref (b 21), .ref (b 22), .ref (b 23), .ref (b 24), .int (m 25), .int (m 26), .int (m 27), .int (m 28), .ref (b 29), .ref (b 30), .int (m 31), .int (m 32), .int (m 33), .int (m 34), .int (m 35), .ref (b 36), .ref (b 37), .int (m 38), .ref (b 39), .ref (b 40), .int (m 41), .int (m 42), .int (m 43), .ref (b 44), .ref (b 45), .ref (b 46), .ref (b 47)])), (b 8, .inl (g 0, 120, .inl (fun i => nI (TP i)))), (b 10, .inl (g 0, 120, .inl (fun i => nI (TX i)))), (b 17, .inl (g 0, 6, .inl NM))]) (wr := []) ⟨rfl, rfl⟩ (zk_rv (As := []) (rest := []) (q0 := 0) (ci := 8) Z ((ih.2.2.2.2.2 b m ln (p + 1) (op + 1) tb TP TX NM ST (by exact hln) (by omega) (by exact ht) (by omega) (by omega)) H.size) hK hT hA G [0, 1, 2, 3] rfl (by decide) rfl rfl gmX8_one_X8_one rfl dvX8_one ⟨by first | decide | (simp only [rm_X8_either, rm_X8_both, rm_X8_compared, rm_X8_sums, rm_X8_product, rm_X8_one]; omega), by first | decide | (simp only [rm_X8_either, rm_X8_both, rm_X8_compared, rm_X8_sums, rm_X8_product, rm_X8_one]; omega)⟩ rfl hl.1 rfl (Nat.le_of_ble_eq_true rfl) dX8_one_80 ⟨Nat.zero_le _, Nat.zero_le _⟩) hA G [0, 1, 2, 3] [] [0, 1, 2, 3] rfl rfl (by decide) (by decide) (by decide) (fun _ => rfl) (fun r_80 uu H locs w_80 G => ?_)
          obtain ⟨p1_80, ft1_80, oq1_80⟩ := uu
          have G : zk_G D aA [(b 100, .inr (8, [.ref (b 0), .ref (b 1), .ref (b 2), .ref (b 3), .int (m 4), .int (m 5), .int (m 6), .int (m 7), .ref (b 8), .int (m 9), .ref (b 10), .int (m 11), .int (zm_bs tb), .int (nI p1_80), .int (nI ln), .int ft1_80, .int oq1_80, .ref (b 17), .ref (b 18), .ref (b 19), .ref (b 20), .ref (b 21), .ref (b 22), .ref (b 23), .ref (b 24), .int (m 25), .int (m 26), .int (m 27), .int (m 28), .ref (b 29), .ref (b 30), .int (m 31), .int (m 32), .int (m 33), .int (m 34), .int (m 35), .ref (b 36), .ref (b 37), .int (m 38), .ref (b 39), .ref (b 40), .int (m 41), .int (m 42), .int (m 43), .ref (b 44), .ref (b 45), .ref (b 46), .ref (b 47)])), (b 8, .inl (g 0, 120, .inl (fun i => nI (TP i)))), (b 10, .inl (g 0, 120, .inl (fun i => nI (TX i)))), (b 17, .inl (g 0, 6, .inl NM))] sS H locs := G
          have zb_80 := zg_le (em := zm_em NM) (ln := ln) ht d 5 (op + 1) (p + 1) (ST) (by omega) (by omega) (by omega) (by omega)
          rcases hz_80 : zg (zm_tx tb TP TX) ln (zm_em NM) d 5 (op + 1) (p + 1) ST with e | ⟨a9, s9⟩
          · obtain ⟨h1_80, h2_80⟩ := zm_pl w_80 hz_80
            obtain rfl : p1_80 = e := h1_80
            obtain rfl : ft1_80 = nI p1_80 := h2_80
            have hb_80 := zb_80
            rw [hz_80] at hb_80
            have hp_80 : p1_80 ≤ ln := hb_80.2
            refine lv_istore_n (lv' := [(2, .int r_80), (1, .int (nI (zg_c (zm_tx tb TP TX) ln p))), (0, .ref (b 100))]) Z.1 Z.2.1 dX8_one_83 rfl hl (by decide) rfl (fun ls hl => ?_)
            refine lv_iload_n Z.1 Z.2.1 dX8_one_84 rfl (lv_at hl 1 rfl) ?_
            refine lv_bipush (v := nI 40) Z.1 Z.2.1 dX8_one_85 (by decide +kernel) ?_
            refine lv_icmp_ne (tgt := 104) Z.1 Z.2.1 dX8_one_87 (by decide) (fun c87 => ?_) (fun c87 => ?_)
            · have c87 : zg_c (zm_tx tb TP TX) ln p ≠ 40 := zk_neq (by omega) (by omega) c87
              refine lv_aload_n Z.1 Z.2.1 dX8_one_104 rfl (lv_at hl 2 rfl) ?_
              refine lv_dup Z.1 Z.2.1 dX8_one_105 rfl ?_
              refine zk_get (C := RX8) (T := TX8) (N := 48) (ci := 8) Z hK G hinX8 0 rfl rfl 16 (by decide) (List.mem_cons_of_mem _ wa8_126) rfl (v := .int oq1_80) rfl dX8_one_106 ?_
              refine lv_iconst (v := nI 1) Z.1 Z.2.1 dX8_one_109 (by decide +kernel) ?_
              refine zk_isub Z dX8_one_110 (z := oq1_80 - (nI 1)) rfl ?_
              refine zk_put tyX8 tyX8_ok nmX8 (C := RX8) (T := TX8) (N := 48) (ci := 8) Z hK G hinX8 0 rfl rfl 16 (by decide) (List.mem_cons_of_mem _ wa8_126) rfl rfl rfl rfl (Nat.le_of_ble_eq_true rfl) (ws' := [(b 100, .inr (8, [.ref (b 0), .ref (b 1), .ref (b 2), .ref (b 3), .int (m 4), .int (m 5), .int (m 6), .int (m 7), .ref (b 8), .int (m 9), .ref (b 10), .int (m 11), .int (zm_bs tb), .int (nI p1_80), .int (nI ln), .int (nI p1_80), .int (oq1_80 - (nI 1)), .ref (b 17), .ref (b 18), .ref (b 19), .ref (b 20), .ref (b 21), .ref (b 22), .ref (b 23), .ref (b 24), .int (m 25), .int (m 26), .int (m 27), .int (m 28), .ref (b 29), .ref (b 30), .int (m 31), .int (m 32), .int (m 33), .int (m 34), .int (m 35), .ref (b 36), .ref (b 37), .int (m 38), .ref (b 39), .ref (b 40), .int (m 41), .int (m 42), .int (m 43), .ref (b 44), .ref (b 45), .ref (b 46), .ref (b 47)])), (b 8, .inl (g 0, 120, .inl (fun i => nI (TP i)))), (b 10, .inl (g 0, 120, .inl (fun i => nI (TX i)))), (b 17, .inl (g 0, 6, .inl NM))]) rfl dX8_one_111 (fun H locs G => ?_)
              refine lv_iload_n Z.1 Z.2.1 dX8_one_114 rfl (lv_at hl 1 rfl) ?_
              refine lv_bipush (v := nI 40) Z.1 Z.2.1 dX8_one_115 (by decide +kernel) ?_
              refine lv_icmp_ne (tgt := 124) Z.1 Z.2.1 dX8_one_117 (by decide) (fun c117 => ?_) (fun c117 => ?_)
              · have c117 : zg_c (zm_tx tb TP TX) ln p ≠ 40 := zk_neq (by omega) (by omega) c117
                refine lv_iload_n Z.1 Z.2.1 dX8_one_124 rfl (lv_at hl 1 rfl) ?_
                refine lv_bipush (v := nI 45) Z.1 Z.2.1 dX8_one_125 (by decide +kernel) ?_
                refine lv_icmp_ne (tgt := 135) Z.1 Z.2.1 dX8_one_127 (by decide) (fun c127 => ?_) (fun c127 => ?_)
                · exfalso
                  have c127 : zg_c (zm_tx tb TP TX) ln p ≠ 45 := zk_neq (by omega) (by omega) c127
                  exact c127 htk
                have c127 : zg_c (zm_tx tb TP TX) ln p = 45 := zk_eq (by omega) (by omega) c127
                refine lv_iload_n Z.1 Z.2.1 dX8_one_130 rfl (lv_at hl 0 rfl) ?_
                refine zk_ineg Z dX8_one_131 (z := 0 - r_80) rfl ?_
                refine lv_goto (tgt := 144) Z.1 Z.2.1 dX8_one_132 (by decide) ?_
                exact zk_reti Z hR_ hlk hK hQ G (p1_80, nI p1_80, oq1_80 - nI 1) (by simp only [zg]; rw [if_neg (by decide), if_neg (by rw [htk]; decide), if_neg (by rw [htk]; decide), if_neg (by rw [htk]; omega), if_neg (by rw [htk]; decide), hz_80]; exact ⟨rfl, rfl⟩) rfl dX8_one_144
              exfalso
              have c117 : zg_c (zm_tx tb TP TX) ln p = 40 := zk_eq (by omega) (by omega) c117
              omega
            exfalso
            have c87 : zg_c (zm_tx tb TP TX) ln p = 40 := zk_eq (by omega) (by omega) c87
            omega
          · obtain ⟨h1_80, h2_80, h3_80, h4_80⟩ := zm_pr w_80 hz_80
            obtain rfl : p1_80 = a9 := h1_80
            obtain rfl : ft1_80 = -1 := h2_80
            obtain rfl : oq1_80 = nI (op + 1) := h3_80
            obtain rfl : s9 = r_80 :: ST := h4_80
            have hb_80 := zb_80
            rw [hz_80] at hb_80
            have hp_80 : p1_80 ≤ ln := hb_80.2
            have hq_80 : p + 1 ≤ p1_80 := hb_80.1
            refine lv_istore_n (lv' := [(2, .int r_80), (1, .int (nI (zg_c (zm_tx tb TP TX) ln p))), (0, .ref (b 100))]) Z.1 Z.2.1 dX8_one_83 rfl hl (by decide) rfl (fun ls hl => ?_)
            refine lv_iload_n Z.1 Z.2.1 dX8_one_84 rfl (lv_at hl 1 rfl) ?_
            refine lv_bipush (v := nI 40) Z.1 Z.2.1 dX8_one_85 (by decide +kernel) ?_
            refine lv_icmp_ne (tgt := 104) Z.1 Z.2.1 dX8_one_87 (by decide) (fun c87 => ?_) (fun c87 => ?_)
            · have c87 : zg_c (zm_tx tb TP TX) ln p ≠ 40 := zk_neq (by omega) (by omega) c87
              refine lv_aload_n Z.1 Z.2.1 dX8_one_104 rfl (lv_at hl 2 rfl) ?_
              refine lv_dup Z.1 Z.2.1 dX8_one_105 rfl ?_
              refine zk_get (C := RX8) (T := TX8) (N := 48) (ci := 8) Z hK G hinX8 0 rfl rfl 16 (by decide) (List.mem_cons_of_mem _ wa8_126) rfl (v := .int (nI (op + 1))) rfl dX8_one_106 ?_
              refine lv_iconst (v := nI 1) Z.1 Z.2.1 dX8_one_109 (by decide +kernel) ?_
              refine zk_isub Z dX8_one_110 (z := nI ((op + 1) - 1)) (pk_sub (by omega)) ?_
              refine zk_put tyX8 tyX8_ok nmX8 (C := RX8) (T := TX8) (N := 48) (ci := 8) Z hK G hinX8 0 rfl rfl 16 (by decide) (List.mem_cons_of_mem _ wa8_126) rfl rfl rfl rfl (Nat.le_of_ble_eq_true rfl) (ws' := [(b 100, .inr (8, [.ref (b 0), .ref (b 1), .ref (b 2), .ref (b 3), .int (m 4), .int (m 5), .int (m 6), .int (m 7), .ref (b 8), .int (m 9), .ref (b 10), .int (m 11), .int (zm_bs tb), .int (nI p1_80), .int (nI ln), .int (-1), .int (nI ((op + 1) - 1)), .ref (b 17), .ref (b 18), .ref (b 19), .ref (b 20), .ref (b 21), .ref (b 22), .ref (b 23), .ref (b 24), .int (m 25), .int (m 26), .int (m 27), .int (m 28), .ref (b 29), .ref (b 30), .int (m 31), .int (m 32), .int (m 33), .int (m 34), .int (m 35), .ref (b 36), .ref (b 37), .int (m 38), .ref (b 39), .ref (b 40), .int (m 41), .int (m 42), .int (m 43), .ref (b 44), .ref (b 45), .ref (b 46), .ref (b 47)])), (b 8, .inl (g 0, 120, .inl (fun i => nI (TP i)))), (b 10, .inl (g 0, 120, .inl (fun i => nI (TX i)))), (b 17, .inl (g 0, 6, .inl NM))]) rfl dX8_one_111 (fun H locs G => ?_)
              refine lv_iload_n Z.1 Z.2.1 dX8_one_114 rfl (lv_at hl 1 rfl) ?_
              refine lv_bipush (v := nI 40) Z.1 Z.2.1 dX8_one_115 (by decide +kernel) ?_
              refine lv_icmp_ne (tgt := 124) Z.1 Z.2.1 dX8_one_117 (by decide) (fun c117 => ?_) (fun c117 => ?_)
              · have c117 : zg_c (zm_tx tb TP TX) ln p ≠ 40 := zk_neq (by omega) (by omega) c117
                refine lv_iload_n Z.1 Z.2.1 dX8_one_124 rfl (lv_at hl 1 rfl) ?_
                refine lv_bipush (v := nI 45) Z.1 Z.2.1 dX8_one_125 (by decide +kernel) ?_
                refine lv_icmp_ne (tgt := 135) Z.1 Z.2.1 dX8_one_127 (by decide) (fun c127 => ?_) (fun c127 => ?_)
                · exfalso
                  have c127 : zg_c (zm_tx tb TP TX) ln p ≠ 45 := zk_neq (by omega) (by omega) c127
                  exact c127 htk
                have c127 : zg_c (zm_tx tb TP TX) ln p = 45 := zk_eq (by omega) (by omega) c127
                refine lv_iload_n Z.1 Z.2.1 dX8_one_130 rfl (lv_at hl 0 rfl) ?_
                refine zk_ineg Z dX8_one_131 (z := 0 - r_80) rfl ?_
                refine lv_goto (tgt := 144) Z.1 Z.2.1 dX8_one_132 (by decide) ?_
                exact zk_reti Z hR_ hlk hK hQ G (p1_80, -1, nI (op + 1 - 1)) (by simp only [zg]; rw [if_neg (by decide), if_neg (by rw [htk]; decide), if_neg (by rw [htk]; decide), if_neg (by rw [htk]; omega), if_neg (by rw [htk]; decide), hz_80]; try simp only []; rw [if_neg (by rw [htk]; decide)]; exact ⟨rfl, rfl, rfl, (congrArg (· :: ST) (show zl_op 5 r_80 r_80 = 0 - r_80 from rfl))⟩) rfl dX8_one_144
              exfalso
              have c117 : zg_c (zm_tx tb TP TX) ln p = 40 := zk_eq (by omega) (by omega) c117
              omega
            exfalso
            have c87 : zg_c (zm_tx tb TP TX) ln p = 40 := zk_eq (by omega) (by omega) c87
            omega
        exfalso
        have c69 : zg_c (zm_tx tb TP TX) ln p = 40 := zk_eq (by omega) (by omega) c69
        omega
      have c38 : op = 6 := zk_eq (by omega) (by omega) c38
      refine lv_aload_n Z.1 Z.2.1 dX8_one_41 rfl (lv_at hl 1 rfl) ?_
      refine zk_ci (WF := fun (_ : Unit) => [(b 100, .inr (8, [.ref (b 0), .ref (b 1), .ref (b 2), .ref (b 3), .int (m 4), .int (m 5), .int (m 6), .int (m 7), .ref (b 8), .int (m 9), .ref (b 10), .int (m 11), .int (zm_bs tb), .int (nI p), .int (nI ln), .int (if (-1) < 0 then nI p else (-1)), .int (nI op), .ref (b 17), .ref (b 18), .ref (b 19), .ref (b 20), .ref (b 21), .ref (b 22), .ref (b 23), .ref (b 24), .int (m 25), .int (m 26), .int (m 27), .int (m 28), .ref (b 29), .ref (b 30), .int (m 31), .int (m 32), .int (m 33), .int (m 34), .int (m 35), .ref (b 36), .ref (b 37), .int (m 38), .ref (b 39), .ref (b 40), .int (m 41), .int (m 42), .int (m 43), .ref (b 44), .ref (b 45), .ref (b 46), .ref (b 47)])), (b 8, .inl (g 0, 120, .inl (fun i => nI (TP i)))), (b 10, .inl (g 0, 120, .inl (fun i => nI (TX i)))), (b 17, .inl (g 0, 6, .inl NM))]) (wr := [(b 8, .inl (g 0, 120, .inl (fun i => nI (TP i)))), (b 10, .inl (g 0, 120, .inl (fun i => nI (TX i)))), (b 17, .inl (g 0, 6, .inl NM))]) ⟨rfl, rfl⟩ (zk_rv (As := []) (rest := []) (q0 := 0) (ci := 8) Z ((ct_X8_wrong l D g τ b m ln p (-1) tb (nI op) ) H.size) hK hT hA G [0] rfl (by decide) rfl rfl gmX8_one_X8_wrong rfl dvX8_wrong ⟨by first | decide | (simp only [rm_X8_either, rm_X8_both, rm_X8_compared, rm_X8_sums, rm_X8_product, rm_X8_one]; omega), by first | decide | (simp only [rm_X8_either, rm_X8_both, rm_X8_compared, rm_X8_sums, rm_X8_product, rm_X8_one]; omega)⟩ rfl hl.1 rfl (Nat.le_of_ble_eq_true rfl) dX8_one_42 ⟨Nat.zero_le _, Nat.zero_le _⟩) hA G [0] [1, 2, 3] [3, 0, 1, 2] rfl rfl (by decide) (by decide) (by decide) (fun _ => rfl) (fun r_42 _ H locs w_42 G => ?_)
      obtain rfl : r_42 = nI 0 := w_42
      have G : zk_G D aA [(b 100, .inr (8, [.ref (b 0), .ref (b 1), .ref (b 2), .ref (b 3), .int (m 4), .int (m 5), .int (m 6), .int (m 7), .ref (b 8), .int (m 9), .ref (b 10), .int (m 11), .int (zm_bs tb), .int (nI p), .int (nI ln), .int (nI p), .int (nI op), .ref (b 17), .ref (b 18), .ref (b 19), .ref (b 20), .ref (b 21), .ref (b 22), .ref (b 23), .ref (b 24), .int (m 25), .int (m 26), .int (m 27), .int (m 28), .ref (b 29), .ref (b 30), .int (m 31), .int (m 32), .int (m 33), .int (m 34), .int (m 35), .ref (b 36), .ref (b 37), .int (m 38), .ref (b 39), .ref (b 40), .int (m 41), .int (m 42), .int (m 43), .ref (b 44), .ref (b 45), .ref (b 46), .ref (b 47)])), (b 8, .inl (g 0, 120, .inl (fun i => nI (TP i)))), (b 10, .inl (g 0, 120, .inl (fun i => nI (TX i)))), (b 17, .inl (g 0, 6, .inl NM))] sS H locs := (by rw [if_pos (by decide)] at G; exact G)
      exact zk_reti Z hR_ hlk hK hQ G (p, nI p, nI op) (by simp only [zg]; rw [if_neg (by decide), if_neg (by rw [htk]; decide), if_neg (by rw [htk]; decide), if_pos (Or.inl (by omega))]; exact ⟨rfl, rfl⟩) rfl dX8_one_45
    have c23 : zg_c (zm_tx tb TP TX) ln p ≠ 45 := zk_neq (by omega) (by omega) c23
    refine lv_iload_n Z.1 Z.2.1 dX8_one_26 rfl (lv_at hl 0 rfl) ?_
    refine lv_bipush (v := nI 40) Z.1 Z.2.1 dX8_one_27 (by decide +kernel) ?_
    refine lv_icmp_ne (tgt := 145) Z.1 Z.2.1 dX8_one_29 (by decide) (fun c29 => ?_) (fun c29 => ?_)
    · have c29 : zg_c (zm_tx tb TP TX) ln p ≠ 40 := zk_neq (by omega) (by omega) c29
      refine lv_iload_n Z.1 Z.2.1 dX8_one_145 rfl (lv_at hl 0 rfl) ?_
      refine zk_ci (WF := fun (_ : Unit) => [(b 100, .inr (8, [.ref (b 0), .ref (b 1), .ref (b 2), .ref (b 3), .int (m 4), .int (m 5), .int (m 6), .int (m 7), .ref (b 8), .int (m 9), .ref (b 10), .int (m 11), .int (zm_bs tb), .int (nI p), .int (nI ln), .int (-1), .int (nI op), .ref (b 17), .ref (b 18), .ref (b 19), .ref (b 20), .ref (b 21), .ref (b 22), .ref (b 23), .ref (b 24), .int (m 25), .int (m 26), .int (m 27), .int (m 28), .ref (b 29), .ref (b 30), .int (m 31), .int (m 32), .int (m 33), .int (m 34), .int (m 35), .ref (b 36), .ref (b 37), .int (m 38), .ref (b 39), .ref (b 40), .int (m 41), .int (m 42), .int (m 43), .ref (b 44), .ref (b 45), .ref (b 46), .ref (b 47)])), (b 8, .inl (g 0, 120, .inl (fun i => nI (TP i)))), (b 10, .inl (g 0, 120, .inl (fun i => nI (TX i)))), (b 17, .inl (g 0, 6, .inl NM))]) (wr := [(b 100, .inr (8, [.ref (b 0), .ref (b 1), .ref (b 2), .ref (b 3), .int (m 4), .int (m 5), .int (m 6), .int (m 7), .ref (b 8), .int (m 9), .ref (b 10), .int (m 11), .int (zm_bs tb), .int (nI p), .int (nI ln), .int (-1), .int (nI op), .ref (b 17), .ref (b 18), .ref (b 19), .ref (b 20), .ref (b 21), .ref (b 22), .ref (b 23), .ref (b 24), .int (m 25), .int (m 26), .int (m 27), .int (m 28), .ref (b 29), .ref (b 30), .int (m 31), .int (m 32), .int (m 33), .int (m 34), .int (m 35), .ref (b 36), .ref (b 37), .int (m 38), .ref (b 39), .ref (b 40), .int (m 41), .int (m 42), .int (m 43), .ref (b 44), .ref (b 45), .ref (b 46), .ref (b 47)])), (b 8, .inl (g 0, 120, .inl (fun i => nI (TP i)))), (b 10, .inl (g 0, 120, .inl (fun i => nI (TX i)))), (b 17, .inl (g 0, 6, .inl NM))]) ⟨rfl, rfl⟩ (zk_rs (As := [.int (nI (zg_c (zm_tx tb TP TX) ln p))]) (rest := []) Z ((ct_X8_nameOf l D g τ (nI (zg_c (zm_tx tb TP TX) ln p)) ) H.size) hK hT hA G [] rfl (by decide) gmX8_one_X8_nameOf rfl dvX8_nameOf ⟨by first | decide | (simp only [rm_X8_either, rm_X8_both, rm_X8_compared, rm_X8_sums, rm_X8_product, rm_X8_one]; omega), by first | decide | (simp only [rm_X8_either, rm_X8_both, rm_X8_compared, rm_X8_sums, rm_X8_product, rm_X8_one]; omega)⟩ rfl hl.1 rfl (Nat.le_of_ble_eq_true rfl) dX8_one_146 ⟨Nat.zero_le _, Nat.zero_le _⟩) hA G [] [0, 1, 2, 3] [0, 1, 2, 3] rfl rfl (by decide) (by decide) (by decide) (fun _ => rfl) (fun r_146 _ H locs w_146 G => ?_)
      obtain rfl : r_146 = zg_ni (nI (zg_c (zm_tx tb TP TX) ln p)) := w_146
      refine lv_istore_n (lv' := [(2, .int (zg_ni (nI (zg_c (zm_tx tb TP TX) ln p)))), (1, .int (nI (zg_c (zm_tx tb TP TX) ln p))), (0, .ref (b 100))]) Z.1 Z.2.1 dX8_one_149 rfl hl (by decide) rfl (fun ls hl => ?_)
      refine lv_iload_n Z.1 Z.2.1 dX8_one_150 rfl (lv_at hl 0 rfl) ?_
      refine lv_if_lt (tgt := 171) Z.1 Z.2.1 dX8_one_151 (by decide) (fun c151 => ?_) (fun c151 => ?_)
      · have hnm9 : ¬ zg_nam (zg_c (zm_tx tb TP TX) ln p) < 6 := fun q9 => by rw [zg_ni_c (by omega), zm_ni, if_pos q9] at c151; exact absurd c151 (nI_pos (by omega))
        have hnt : ¬ (zg_c (zm_tx tb TP TX) ln p = 40 ∨ zg_c (zm_tx tb TP TX) ln p = 33 ∨ zg_c (zm_tx tb TP TX) ln p = 45) := by omega
        obtain ⟨V, hV⟩ : ∃ V, V = zg_num (zm_tx tb TP TX) ln 4 p 0 := ⟨_, rfl⟩
        refine lv_iconst (v := nI 0) Z.1 Z.2.1 dX8_one_171 (by decide +kernel) ?_
        refine lv_istore_n (lv' := [(3, .int (nI 0)), (2, .int (zg_ni (nI (zg_c (zm_tx tb TP TX) ln p)))), (1, .int (nI (zg_c (zm_tx tb TP TX) ln p))), (0, .ref (b 100))]) Z.1 Z.2.1 dX8_one_172 rfl hl (by decide) rfl (fun ls hl => ?_)
        refine lv_iconst (v := nI 0) Z.1 Z.2.1 dX8_one_173 (by decide +kernel) ?_
        refine lv_istore (lv' := [(4, .int (nI 0)), (3, .int (nI 0)), (2, .int (zg_ni (nI (zg_c (zm_tx tb TP TX) ln p)))), (1, .int (nI (zg_c (zm_tx tb TP TX) ln p))), (0, .ref (b 100))]) Z.1 Z.2.1 dX8_one_174 hl (by decide) rfl (fun ls hl => ?_)
        have L176 : ∀ (nN : Nat) (y1 : Nat) (p2 : Nat) (v : Nat) (f : Nat), f < nN → (y1 + f = 4) → (p2 ≤ ln) → (zg_num (zm_tx tb TP TX) ln f p2 v = V) → ((y1 = 0 → p2 = p ∧ v = 0) ∧ (y1 ≠ 0 → 48 ≤ zg_c (zm_tx tb TP TX) ln p ∧ zg_c (zm_tx tb TP TX) ln p ≤ 57)) → ∀ (H : Heap) (locs : List Loc) (ls : Array Slot), zk_G D aA [(b 100, .inr (8, [.ref (b 0), .ref (b 1), .ref (b 2), .ref (b 3), .int (m 4), .int (m 5), .int (m 6), .int (m 7), .ref (b 8), .int (m 9), .ref (b 10), .int (m 11), .int (zm_bs tb), .int (nI p2), .int (nI ln), .int (-1), .int (nI op), .ref (b 17), .ref (b 18), .ref (b 19), .ref (b 20), .ref (b 21), .ref (b 22), .ref (b 23), .ref (b 24), .int (m 25), .int (m 26), .int (m 27), .int (m 28), .ref (b 29), .ref (b 30), .int (m 31), .int (m 32), .int (m 33), .int (m 34), .int (m 35), .ref (b 36), .ref (b 37), .int (m 38), .ref (b 39), .ref (b 40), .int (m 41), .int (m 42), .int (m 43), .ref (b 44), .ref (b 45), .ref (b 46), .ref (b 47)])), (b 8, .inl (g 0, 120, .inl (fun i => nI (TP i)))), (b 10, .inl (g 0, 120, .inl (fun i => nI (TX i)))), (b 17, .inl (g 0, 6, .inl NM))] sS H locs → lv_has ls 5 [(0, .ref (b 100)), (3, .int (nI v)), (4, .int (nI y1))] → W pP l eE (rm_X8_one (d + 1)) sS mM args below meth cC H locs 0 0 qQ (F0 mM 176 ls []) := by
          intro nN
          induction nN with
          | zero => intros; omega
          | succ nN ih176 =>
            intro y1 p2 v f hμ h1 h2 hs hdi H locs ls G hl
            have hcb2 := zg_c_256 (ln := ln) ht p2
            refine lv_iload Z.1 Z.2.1 dX8_one_176 (lv_at hl 2 rfl) ?_
            refine lv_iconst (v := nI 4) Z.1 Z.2.1 dX8_one_178 (by decide +kernel) ?_
            refine lv_icmp_ge (tgt := 229) Z.1 Z.2.1 dX8_one_179 (by decide) (fun c179 => ?_) (fun c179 => ?_)
            · have c179 : 4 ≤ y1 := zk_le (by omega) (by omega) c179
              have hE : (p2, v) = V := by rw [show f = 0 by omega] at hs; exact hs
              refine lv_iload Z.1 Z.2.1 dX8_one_229 (lv_at hl 2 rfl) ?_
              refine lv_if_ne (tgt := 241) Z.1 Z.2.1 dX8_one_231 (by decide) (fun c231 => ?_) (fun c231 => ?_)
              · have c231 : y1 ≠ 0 := zk_neq (by omega) (by omega) c231
                refine lv_iload_n Z.1 Z.2.1 dX8_one_241 rfl (lv_at hl 1 rfl) ?_
                exact zk_reti Z hR_ hlk hK hQ G (p2, -1, nI op) (by simp only [zg]; rw [if_neg (by decide), if_pos (hdi.2 (by omega))]; rw [← hV, ← hE]; exact ⟨rfl, rfl, rfl, rfl⟩) rfl dX8_one_242
              exfalso
              have c231 : y1 = 0 := zk_eq (by omega) (by omega) c231
              omega
            have c179 : y1 < 4 := zk_nle (by omega) (by omega) c179
            obtain ⟨f9, rfl⟩ : ∃ f9, f = f9 + 1 := ⟨f - 1, by omega⟩
            refine lv_aload_n Z.1 Z.2.1 dX8_one_182 rfl (lv_at hl 0 rfl) ?_
            refine zk_ci (WF := fun (_ : Unit) => [(b 100, .inr (8, [.ref (b 0), .ref (b 1), .ref (b 2), .ref (b 3), .int (m 4), .int (m 5), .int (m 6), .int (m 7), .ref (b 8), .int (m 9), .ref (b 10), .int (m 11), .int (zm_bs tb), .int (nI p2), .int (nI ln), .int (-1), .int (nI op), .ref (b 17), .ref (b 18), .ref (b 19), .ref (b 20), .ref (b 21), .ref (b 22), .ref (b 23), .ref (b 24), .int (m 25), .int (m 26), .int (m 27), .int (m 28), .ref (b 29), .ref (b 30), .int (m 31), .int (m 32), .int (m 33), .int (m 34), .int (m 35), .ref (b 36), .ref (b 37), .int (m 38), .ref (b 39), .ref (b 40), .int (m 41), .int (m 42), .int (m 43), .ref (b 44), .ref (b 45), .ref (b 46), .ref (b 47)])), (b 8, .inl (g 0, 120, .inl (fun i => nI (TP i)))), (b 10, .inl (g 0, 120, .inl (fun i => nI (TX i)))), (b 17, .inl (g 0, 6, .inl NM))]) (wr := [(b 17, .inl (g 0, 6, .inl NM))]) ⟨rfl, rfl⟩ (zk_rv (As := []) (rest := []) (q0 := 0) (ci := 8) Z ((ct_X8_byteAt l D g τ b m ln p2 (-1) tb TP TX (nI op) (by exact hln) (by omega)) H.size) hK hT hA G [0, 1, 2] rfl (by decide) rfl rfl gmX8_one_X8_byteAt rfl dvX8_byteAt ⟨by first | decide | (simp only [rm_X8_either, rm_X8_both, rm_X8_compared, rm_X8_sums, rm_X8_product, rm_X8_one]; omega), by first | decide | (simp only [rm_X8_either, rm_X8_both, rm_X8_compared, rm_X8_sums, rm_X8_product, rm_X8_one]; omega)⟩ rfl hl.1 rfl (Nat.le_of_ble_eq_true rfl) dX8_one_183 ⟨Nat.zero_le _, Nat.zero_le _⟩) hA G [0, 1, 2] [3] [1, 2, 3, 0] rfl rfl (by decide) (by decide) (by decide) (fun _ => rfl) (fun r_183 _ H locs w_183 G => ?_)
            obtain rfl : r_183 = nI (zg_c (zm_tx tb TP TX) ln p2) := w_183
            refine lv_bipush (v := nI 48) Z.1 Z.2.1 dX8_one_186 (by decide +kernel) ?_
            refine lv_icmp_lt (tgt := 229) Z.1 Z.2.1 dX8_one_188 (by decide) (fun c188 => ?_) (fun c188 => ?_)
            · have c188 : zg_c (zm_tx tb TP TX) ln p2 < 48 := zk_lt (by omega) (by omega) c188
              have hE : (p2, v) = V := by simp only [zg_num] at hs; rw [if_neg (fun q9 => absurd q9.1 (Nat.not_le.mpr c188))] at hs; exact hs
              refine lv_iload Z.1 Z.2.1 dX8_one_229 (lv_at hl 2 rfl) ?_
              refine lv_if_ne (tgt := 241) Z.1 Z.2.1 dX8_one_231 (by decide) (fun c231 => ?_) (fun c231 => ?_)
              · have c231 : y1 ≠ 0 := zk_neq (by omega) (by omega) c231
                refine lv_iload_n Z.1 Z.2.1 dX8_one_241 rfl (lv_at hl 1 rfl) ?_
                exact zk_reti Z hR_ hlk hK hQ G (p2, -1, nI op) (by simp only [zg]; rw [if_neg (by decide), if_pos (hdi.2 (by omega))]; rw [← hV, ← hE]; exact ⟨rfl, rfl, rfl, rfl⟩) rfl dX8_one_242
              have c231 : y1 = 0 := zk_eq (by omega) (by omega) c231
              have hi0 : y1 = 0 := c231
              have hnd : ¬ (48 ≤ zg_c (zm_tx tb TP TX) ln p ∧ zg_c (zm_tx tb TP TX) ln p ≤ 57) := by obtain ⟨rfl, -⟩ := hdi.1 hi0; exact fun q9 => absurd q9.1 (Nat.not_le.mpr c188)
              refine lv_aload_n Z.1 Z.2.1 dX8_one_234 rfl (lv_at hl 0 rfl) ?_
              refine zk_ci (WF := fun (_ : Unit) => [(b 100, .inr (8, [.ref (b 0), .ref (b 1), .ref (b 2), .ref (b 3), .int (m 4), .int (m 5), .int (m 6), .int (m 7), .ref (b 8), .int (m 9), .ref (b 10), .int (m 11), .int (zm_bs tb), .int (nI p2), .int (nI ln), .int (if (-1) < 0 then nI p2 else (-1)), .int (nI op), .ref (b 17), .ref (b 18), .ref (b 19), .ref (b 20), .ref (b 21), .ref (b 22), .ref (b 23), .ref (b 24), .int (m 25), .int (m 26), .int (m 27), .int (m 28), .ref (b 29), .ref (b 30), .int (m 31), .int (m 32), .int (m 33), .int (m 34), .int (m 35), .ref (b 36), .ref (b 37), .int (m 38), .ref (b 39), .ref (b 40), .int (m 41), .int (m 42), .int (m 43), .ref (b 44), .ref (b 45), .ref (b 46), .ref (b 47)])), (b 8, .inl (g 0, 120, .inl (fun i => nI (TP i)))), (b 10, .inl (g 0, 120, .inl (fun i => nI (TX i)))), (b 17, .inl (g 0, 6, .inl NM))]) (wr := [(b 8, .inl (g 0, 120, .inl (fun i => nI (TP i)))), (b 10, .inl (g 0, 120, .inl (fun i => nI (TX i)))), (b 17, .inl (g 0, 6, .inl NM))]) ⟨rfl, rfl⟩ (zk_rv (As := []) (rest := []) (q0 := 0) (ci := 8) Z ((ct_X8_wrong l D g τ b m ln p2 (-1) tb (nI op) ) H.size) hK hT hA G [0] rfl (by decide) rfl rfl gmX8_one_X8_wrong rfl dvX8_wrong ⟨by first | decide | (simp only [rm_X8_either, rm_X8_both, rm_X8_compared, rm_X8_sums, rm_X8_product, rm_X8_one]; omega), by first | decide | (simp only [rm_X8_either, rm_X8_both, rm_X8_compared, rm_X8_sums, rm_X8_product, rm_X8_one]; omega)⟩ rfl hl.1 rfl (Nat.le_of_ble_eq_true rfl) dX8_one_235 ⟨Nat.zero_le _, Nat.zero_le _⟩) hA G [0] [1, 2, 3] [3, 0, 1, 2] rfl rfl (by decide) (by decide) (by decide) (fun _ => rfl) (fun r_235 _ H locs w_235 G => ?_)
              obtain rfl : r_235 = nI 0 := w_235
              refine lv_goto (tgt := 242) Z.1 Z.2.1 dX8_one_238 (by decide) ?_
              exact zk_reti Z hR_ hlk hK hQ G (p2, nI p2, nI op) (by obtain ⟨rfl, -⟩ := hdi.1 hi0; simp only [zg]; rw [if_neg (by decide), if_neg hnd, if_neg hnm9, if_pos (Or.inr hnt)]; exact ⟨rfl, rfl⟩) rfl dX8_one_242
            have c188 : 48 ≤ zg_c (zm_tx tb TP TX) ln p2 := zk_nlt (by omega) (by omega) c188
            refine lv_aload_n Z.1 Z.2.1 dX8_one_191 rfl (lv_at hl 0 rfl) ?_
            refine zk_ci (WF := fun (_ : Unit) => [(b 100, .inr (8, [.ref (b 0), .ref (b 1), .ref (b 2), .ref (b 3), .int (m 4), .int (m 5), .int (m 6), .int (m 7), .ref (b 8), .int (m 9), .ref (b 10), .int (m 11), .int (zm_bs tb), .int (nI p2), .int (nI ln), .int (-1), .int (nI op), .ref (b 17), .ref (b 18), .ref (b 19), .ref (b 20), .ref (b 21), .ref (b 22), .ref (b 23), .ref (b 24), .int (m 25), .int (m 26), .int (m 27), .int (m 28), .ref (b 29), .ref (b 30), .int (m 31), .int (m 32), .int (m 33), .int (m 34), .int (m 35), .ref (b 36), .ref (b 37), .int (m 38), .ref (b 39), .ref (b 40), .int (m 41), .int (m 42), .int (m 43), .ref (b 44), .ref (b 45), .ref (b 46), .ref (b 47)])), (b 8, .inl (g 0, 120, .inl (fun i => nI (TP i)))), (b 10, .inl (g 0, 120, .inl (fun i => nI (TX i)))), (b 17, .inl (g 0, 6, .inl NM))]) (wr := [(b 17, .inl (g 0, 6, .inl NM))]) ⟨rfl, rfl⟩ (zk_rv (As := []) (rest := []) (q0 := 0) (ci := 8) Z ((ct_X8_byteAt l D g τ b m ln p2 (-1) tb TP TX (nI op) (by exact hln) (by omega)) H.size) hK hT hA G [0, 1, 2] rfl (by decide) rfl rfl gmX8_one_X8_byteAt rfl dvX8_byteAt ⟨by first | decide | (simp only [rm_X8_either, rm_X8_both, rm_X8_compared, rm_X8_sums, rm_X8_product, rm_X8_one]; omega), by first | decide | (simp only [rm_X8_either, rm_X8_both, rm_X8_compared, rm_X8_sums, rm_X8_product, rm_X8_one]; omega)⟩ rfl hl.1 rfl (Nat.le_of_ble_eq_true rfl) dX8_one_192 ⟨Nat.zero_le _, Nat.zero_le _⟩) hA G [0, 1, 2] [3] [1, 2, 3, 0] rfl rfl (by decide) (by decide) (by decide) (fun _ => rfl) (fun r_192 _ H locs w_192 G => ?_)
            obtain rfl : r_192 = nI (zg_c (zm_tx tb TP TX) ln p2) := w_192
            refine lv_bipush (v := nI 57) Z.1 Z.2.1 dX8_one_195 (by decide +kernel) ?_
            refine lv_icmp_gt (tgt := 229) Z.1 Z.2.1 dX8_one_197 (by decide) (fun c197 => ?_) (fun c197 => ?_)
            · have c197 : 57 < zg_c (zm_tx tb TP TX) ln p2 := zk_lt (by omega) (by omega) c197
              have hE : (p2, v) = V := by simp only [zg_num] at hs; rw [if_neg (fun q9 => absurd q9.2 (Nat.not_le.mpr c197))] at hs; exact hs
              refine lv_iload Z.1 Z.2.1 dX8_one_229 (lv_at hl 2 rfl) ?_
              refine lv_if_ne (tgt := 241) Z.1 Z.2.1 dX8_one_231 (by decide) (fun c231 => ?_) (fun c231 => ?_)
              · have c231 : y1 ≠ 0 := zk_neq (by omega) (by omega) c231
                refine lv_iload_n Z.1 Z.2.1 dX8_one_241 rfl (lv_at hl 1 rfl) ?_
                exact zk_reti Z hR_ hlk hK hQ G (p2, -1, nI op) (by simp only [zg]; rw [if_neg (by decide), if_pos (hdi.2 (by omega))]; rw [← hV, ← hE]; exact ⟨rfl, rfl, rfl, rfl⟩) rfl dX8_one_242
              have c231 : y1 = 0 := zk_eq (by omega) (by omega) c231
              have hi0 : y1 = 0 := c231
              have hnd : ¬ (48 ≤ zg_c (zm_tx tb TP TX) ln p ∧ zg_c (zm_tx tb TP TX) ln p ≤ 57) := by obtain ⟨rfl, -⟩ := hdi.1 hi0; exact fun q9 => absurd q9.2 (Nat.not_le.mpr c197)
              refine lv_aload_n Z.1 Z.2.1 dX8_one_234 rfl (lv_at hl 0 rfl) ?_
              refine zk_ci (WF := fun (_ : Unit) => [(b 100, .inr (8, [.ref (b 0), .ref (b 1), .ref (b 2), .ref (b 3), .int (m 4), .int (m 5), .int (m 6), .int (m 7), .ref (b 8), .int (m 9), .ref (b 10), .int (m 11), .int (zm_bs tb), .int (nI p2), .int (nI ln), .int (if (-1) < 0 then nI p2 else (-1)), .int (nI op), .ref (b 17), .ref (b 18), .ref (b 19), .ref (b 20), .ref (b 21), .ref (b 22), .ref (b 23), .ref (b 24), .int (m 25), .int (m 26), .int (m 27), .int (m 28), .ref (b 29), .ref (b 30), .int (m 31), .int (m 32), .int (m 33), .int (m 34), .int (m 35), .ref (b 36), .ref (b 37), .int (m 38), .ref (b 39), .ref (b 40), .int (m 41), .int (m 42), .int (m 43), .ref (b 44), .ref (b 45), .ref (b 46), .ref (b 47)])), (b 8, .inl (g 0, 120, .inl (fun i => nI (TP i)))), (b 10, .inl (g 0, 120, .inl (fun i => nI (TX i)))), (b 17, .inl (g 0, 6, .inl NM))]) (wr := [(b 8, .inl (g 0, 120, .inl (fun i => nI (TP i)))), (b 10, .inl (g 0, 120, .inl (fun i => nI (TX i)))), (b 17, .inl (g 0, 6, .inl NM))]) ⟨rfl, rfl⟩ (zk_rv (As := []) (rest := []) (q0 := 0) (ci := 8) Z ((ct_X8_wrong l D g τ b m ln p2 (-1) tb (nI op) ) H.size) hK hT hA G [0] rfl (by decide) rfl rfl gmX8_one_X8_wrong rfl dvX8_wrong ⟨by first | decide | (simp only [rm_X8_either, rm_X8_both, rm_X8_compared, rm_X8_sums, rm_X8_product, rm_X8_one]; omega), by first | decide | (simp only [rm_X8_either, rm_X8_both, rm_X8_compared, rm_X8_sums, rm_X8_product, rm_X8_one]; omega)⟩ rfl hl.1 rfl (Nat.le_of_ble_eq_true rfl) dX8_one_235 ⟨Nat.zero_le _, Nat.zero_le _⟩) hA G [0] [1, 2, 3] [3, 0, 1, 2] rfl rfl (by decide) (by decide) (by decide) (fun _ => rfl) (fun r_235 _ H locs w_235 G => ?_)
              obtain rfl : r_235 = nI 0 := w_235
              refine lv_goto (tgt := 242) Z.1 Z.2.1 dX8_one_238 (by decide) ?_
              exact zk_reti Z hR_ hlk hK hQ G (p2, nI p2, nI op) (by obtain ⟨rfl, -⟩ := hdi.1 hi0; simp only [zg]; rw [if_neg (by decide), if_neg hnd, if_neg hnm9, if_pos (Or.inr hnt)]; exact ⟨rfl, rfl⟩) rfl dX8_one_242
            have c197 : zg_c (zm_tx tb TP TX) ln p2 ≤ 57 := zk_nlt (by omega) (by omega) c197
            refine lv_bipush (v := nI 10) Z.1 Z.2.1 dX8_one_200 (by decide +kernel) ?_
            refine lv_iload_n Z.1 Z.2.1 dX8_one_202 rfl (lv_at hl 1 rfl) ?_
            refine zk_imul Z dX8_one_203 (z := nI (10 * v)) (pk_mul _ _) ?_
            refine lv_aload_n Z.1 Z.2.1 dX8_one_204 rfl (lv_at hl 0 rfl) ?_
            refine zk_ci (WF := fun (_ : Unit) => [(b 100, .inr (8, [.ref (b 0), .ref (b 1), .ref (b 2), .ref (b 3), .int (m 4), .int (m 5), .int (m 6), .int (m 7), .ref (b 8), .int (m 9), .ref (b 10), .int (m 11), .int (zm_bs tb), .int (nI p2), .int (nI ln), .int (-1), .int (nI op), .ref (b 17), .ref (b 18), .ref (b 19), .ref (b 20), .ref (b 21), .ref (b 22), .ref (b 23), .ref (b 24), .int (m 25), .int (m 26), .int (m 27), .int (m 28), .ref (b 29), .ref (b 30), .int (m 31), .int (m 32), .int (m 33), .int (m 34), .int (m 35), .ref (b 36), .ref (b 37), .int (m 38), .ref (b 39), .ref (b 40), .int (m 41), .int (m 42), .int (m 43), .ref (b 44), .ref (b 45), .ref (b 46), .ref (b 47)])), (b 8, .inl (g 0, 120, .inl (fun i => nI (TP i)))), (b 10, .inl (g 0, 120, .inl (fun i => nI (TX i)))), (b 17, .inl (g 0, 6, .inl NM))]) (wr := [(b 17, .inl (g 0, 6, .inl NM))]) ⟨rfl, rfl⟩ (zk_rv (As := []) (rest := [.int (nI (10 * v))]) (q0 := 0) (ci := 8) Z ((ct_X8_byteAt l D g τ b m ln p2 (-1) tb TP TX (nI op) (by exact hln) (by omega)) H.size) hK hT hA G [0, 1, 2] rfl (by decide) rfl rfl gmX8_one_X8_byteAt rfl dvX8_byteAt ⟨by first | decide | (simp only [rm_X8_either, rm_X8_both, rm_X8_compared, rm_X8_sums, rm_X8_product, rm_X8_one]; omega), by first | decide | (simp only [rm_X8_either, rm_X8_both, rm_X8_compared, rm_X8_sums, rm_X8_product, rm_X8_one]; omega)⟩ rfl hl.1 rfl (Nat.le_of_ble_eq_true rfl) dX8_one_205 ⟨Nat.zero_le _, Nat.zero_le _⟩) hA G [0, 1, 2] [3] [1, 2, 3, 0] rfl rfl (by decide) (by decide) (by decide) (fun _ => rfl) (fun r_205 _ H locs w_205 G => ?_)
            obtain rfl : r_205 = nI (zg_c (zm_tx tb TP TX) ln p2) := w_205
            refine zk_iadd Z dX8_one_208 (z := nI (10 * v + (zg_c (zm_tx tb TP TX) ln p2))) (nI_add _ _) ?_
            refine lv_bipush (v := nI 48) Z.1 Z.2.1 dX8_one_209 (by decide +kernel) ?_
            refine zk_isub Z dX8_one_211 (z := nI ((10 * v + (zg_c (zm_tx tb TP TX) ln p2)) - 48)) (pk_sub (by omega)) ?_
            refine lv_istore_n (lv' := [(3, .int (nI ((10 * v + (zg_c (zm_tx tb TP TX) ln p2)) - 48))), (0, .ref (b 100)), (4, .int (nI y1))]) Z.1 Z.2.1 dX8_one_212 rfl hl (by decide) rfl (fun ls hl => ?_)
            refine lv_iinc (v := nI (y1 + 1)) (lv' := [(4, .int (nI (y1 + 1))), (3, .int (nI ((10 * v + (zg_c (zm_tx tb TP TX) ln p2)) - 48))), (0, .ref (b 100))]) Z.1 Z.2.1 dX8_one_213 hl (k := 2) rfl (zk_inc y1 1) (by decide) rfl (fun ls hl => ?_)
            refine lv_aload_n Z.1 Z.2.1 dX8_one_216 rfl (lv_at hl 2 rfl) ?_
            refine lv_dup Z.1 Z.2.1 dX8_one_217 rfl ?_
            refine zk_get (C := RX8) (T := TX8) (N := 48) (ci := 8) Z hK G hinX8 0 rfl rfl 13 (by decide) (List.mem_cons_of_mem _ wa8_101) rfl (v := .int (nI p2)) rfl dX8_one_218 ?_
            refine lv_iconst (v := nI 1) Z.1 Z.2.1 dX8_one_221 (by decide +kernel) ?_
            refine zk_iadd Z dX8_one_222 (z := nI (p2 + 1)) (nI_add _ _) ?_
            refine zk_put tyX8 tyX8_ok nmX8 (C := RX8) (T := TX8) (N := 48) (ci := 8) Z hK G hinX8 0 rfl rfl 13 (by decide) (List.mem_cons_of_mem _ wa8_101) rfl rfl rfl rfl (Nat.le_of_ble_eq_true rfl) (ws' := [(b 100, .inr (8, [.ref (b 0), .ref (b 1), .ref (b 2), .ref (b 3), .int (m 4), .int (m 5), .int (m 6), .int (m 7), .ref (b 8), .int (m 9), .ref (b 10), .int (m 11), .int (zm_bs tb), .int (nI (p2 + 1)), .int (nI ln), .int (-1), .int (nI op), .ref (b 17), .ref (b 18), .ref (b 19), .ref (b 20), .ref (b 21), .ref (b 22), .ref (b 23), .ref (b 24), .int (m 25), .int (m 26), .int (m 27), .int (m 28), .ref (b 29), .ref (b 30), .int (m 31), .int (m 32), .int (m 33), .int (m 34), .int (m 35), .ref (b 36), .ref (b 37), .int (m 38), .ref (b 39), .ref (b 40), .int (m 41), .int (m 42), .int (m 43), .ref (b 44), .ref (b 45), .ref (b 46), .ref (b 47)])), (b 8, .inl (g 0, 120, .inl (fun i => nI (TP i)))), (b 10, .inl (g 0, 120, .inl (fun i => nI (TX i)))), (b 17, .inl (g 0, 6, .inl NM))]) rfl dX8_one_223 (fun H locs G => ?_)
            refine lv_goto (tgt := 176) Z.1 Z.2.1 dX8_one_226 (by decide) ?_
            exact ih176 (y1 + 1) (p2 + 1) ((10 * v + (zg_c (zm_tx tb TP TX) ln p2)) - 48) f9 (by omega) (by omega) (by exact zg_c_lt (tp := (zm_tx tb TP TX)) (by omega)) (by simp only [zg_num] at hs; rw [if_pos ⟨c188, c197⟩] at hs; rw [show 10 * v + zg_c (zm_tx tb TP TX) ln p2 - 48 = v * 10 + zg_c (zm_tx tb TP TX) ln p2 - 48 by omega]; exact hs) (by exact ⟨fun q9 => absurd q9 (by omega), fun _ => by by_cases q8 : y1 = 0; obtain ⟨rfl, -⟩ := hdi.1 q8; exact ⟨c188, c197⟩; exact hdi.2 q8⟩) _ _ _ G (lv_sub hl [2, 1, 0] rfl)
        exact L176 _ 0 p 0 4 (Nat.lt_succ_self _) (by omega) (by exact hp) (by exact hV.symm) (by exact ⟨fun _ => ⟨rfl, rfl⟩, fun q9 => absurd rfl q9⟩) _ _ _ G (lv_sub hl [4, 1, 0] rfl)
      have hnm9 : zg_nam (zg_c (zm_tx tb TP TX) ln p) < 6 := Decidable.byContradiction (fun q9 => by rw [zg_ni_c (by omega), zm_ni, if_neg q9] at c151; exact c151 (by decide))
      have hpl : p < ln := zg_c_lt (zg_nam_0 hnm9)
      have hdg0 : ¬ (48 ≤ zg_c (zm_tx tb TP TX) ln p ∧ zg_c (zm_tx tb TP TX) ln p ≤ 57) := by intro q9; revert hnm9; generalize zg_c (zm_tx tb TP TX) ln p = c9 at q9; unfold zg_nam; rw [if_neg (by omega), if_neg (by omega), if_neg (by omega), if_neg (by omega), if_neg (by omega), if_neg (by omega)]; decide
      have en9 : zg_ni (nI (zg_c (zm_tx tb TP TX) ln p)) = nI (zg_nam (zg_c (zm_tx tb TP TX) ln p)) := by rw [zg_ni_c (by omega), zm_ni, if_pos hnm9]
      have hl : lv_has ls 5 [(2, .int (nI (zg_nam (zg_c (zm_tx tb TP TX) ln p)))), (1, .int (nI (zg_c (zm_tx tb TP TX) ln p))), (0, .ref (b 100))] := by rw [← en9]; exact hl
      refine lv_aload_n Z.1 Z.2.1 dX8_one_154 rfl (lv_at hl 2 rfl) ?_
      refine lv_dup Z.1 Z.2.1 dX8_one_155 rfl ?_
      refine zk_get (C := RX8) (T := TX8) (N := 48) (ci := 8) Z hK G hinX8 0 rfl rfl 13 (by decide) (List.mem_cons_of_mem _ wa8_101) rfl (v := .int (nI p)) rfl dX8_one_156 ?_
      refine lv_iconst (v := nI 1) Z.1 Z.2.1 dX8_one_159 (by decide +kernel) ?_
      refine zk_iadd Z dX8_one_160 (z := nI (p + 1)) (nI_add _ _) ?_
      refine zk_put tyX8 tyX8_ok nmX8 (C := RX8) (T := TX8) (N := 48) (ci := 8) Z hK G hinX8 0 rfl rfl 13 (by decide) (List.mem_cons_of_mem _ wa8_101) rfl rfl rfl rfl (Nat.le_of_ble_eq_true rfl) (ws' := [(b 100, .inr (8, [.ref (b 0), .ref (b 1), .ref (b 2), .ref (b 3), .int (m 4), .int (m 5), .int (m 6), .int (m 7), .ref (b 8), .int (m 9), .ref (b 10), .int (m 11), .int (zm_bs tb), .int (nI (p + 1)), .int (nI ln), .int (-1), .int (nI op), .ref (b 17), .ref (b 18), .ref (b 19), .ref (b 20), .ref (b 21), .ref (b 22), .ref (b 23), .ref (b 24), .int (m 25), .int (m 26), .int (m 27), .int (m 28), .ref (b 29), .ref (b 30), .int (m 31), .int (m 32), .int (m 33), .int (m 34), .int (m 35), .ref (b 36), .ref (b 37), .int (m 38), .ref (b 39), .ref (b 40), .int (m 41), .int (m 42), .int (m 43), .ref (b 44), .ref (b 45), .ref (b 46), .ref (b 47)])), (b 8, .inl (g 0, 120, .inl (fun i => nI (TP i)))), (b 10, .inl (g 0, 120, .inl (fun i => nI (TX i)))), (b 17, .inl (g 0, 6, .inl NM))]) rfl dX8_one_161 (fun H locs G => ?_)
      refine lv_aload_n Z.1 Z.2.1 dX8_one_164 rfl (lv_at hl 2 rfl) ?_
      refine zk_get (C := RX8) (T := TX8) (N := 48) (ci := 8) Z hK G hinX8 0 rfl rfl 17 (by decide) (List.mem_cons_of_mem _ wa8_13) rfl (v := .ref (b 17)) rfl dX8_one_165 ?_
      refine lv_iload_n Z.1 Z.2.1 dX8_one_168 rfl (lv_at hl 0 rfl) ?_
      refine zk_iald Z hK G 3 rfl (k := zg_nam (zg_c (zm_tx tb TP TX) ln p)) (by omega) (by decide) (v := NM (zg_nam (zg_c (zm_tx tb TP TX) ln p))) rfl dX8_one_169 ?_
      exact zk_reti Z hR_ hlk hK hQ G (p + 1, -1, nI op) (by simp only [zg]; rw [if_neg (by decide), if_neg hdg0, if_pos hnm9]; exact ⟨rfl, rfl, rfl, rfl⟩) rfl dX8_one_170
    have c29 : zg_c (zm_tx tb TP TX) ln p = 40 := zk_eq (by omega) (by omega) c29
    have htk : zg_c (zm_tx tb TP TX) ln p = 40 := c29
    have hpl : p < ln := zg_c_lt (tp := (zm_tx tb TP TX)) (by rw [htk]; decide)
    refine lv_aload_n Z.1 Z.2.1 dX8_one_32 rfl (lv_at hl 1 rfl) ?_
    refine zk_get (C := RX8) (T := TX8) (N := 48) (ci := 8) Z hK G hinX8 0 rfl rfl 16 (by decide) (List.mem_cons_of_mem _ wa8_126) rfl (v := .int (nI op)) rfl dX8_one_33 ?_
    refine lv_bipush (v := nI 6) Z.1 Z.2.1 dX8_one_36 (by decide +kernel) ?_
    refine lv_icmp_ne (tgt := 46) Z.1 Z.2.1 dX8_one_38 (by decide) (fun c38 => ?_) (fun c38 => ?_)
    · have c38 : op ≠ 6 := zk_neq (by omega) (by omega) c38
      have hop6 : op < 6 := by omega
      refine lv_aload_n Z.1 Z.2.1 dX8_one_46 rfl (lv_at hl 1 rfl) ?_
      refine lv_dup Z.1 Z.2.1 dX8_one_47 rfl ?_
      refine zk_get (C := RX8) (T := TX8) (N := 48) (ci := 8) Z hK G hinX8 0 rfl rfl 16 (by decide) (List.mem_cons_of_mem _ wa8_126) rfl (v := .int (nI op)) rfl dX8_one_48 ?_
      refine lv_iconst (v := nI 1) Z.1 Z.2.1 dX8_one_51 (by decide +kernel) ?_
      refine zk_iadd Z dX8_one_52 (z := nI (op + 1)) (nI_add _ _) ?_
      refine zk_put tyX8 tyX8_ok nmX8 (C := RX8) (T := TX8) (N := 48) (ci := 8) Z hK G hinX8 0 rfl rfl 16 (by decide) (List.mem_cons_of_mem _ wa8_126) rfl rfl rfl rfl (Nat.le_of_ble_eq_true rfl) (ws' := [(b 100, .inr (8, [.ref (b 0), .ref (b 1), .ref (b 2), .ref (b 3), .int (m 4), .int (m 5), .int (m 6), .int (m 7), .ref (b 8), .int (m 9), .ref (b 10), .int (m 11), .int (zm_bs tb), .int (nI p), .int (nI ln), .int (-1), .int (nI (op + 1)), .ref (b 17), .ref (b 18), .ref (b 19), .ref (b 20), .ref (b 21), .ref (b 22), .ref (b 23), .ref (b 24), .int (m 25), .int (m 26), .int (m 27), .int (m 28), .ref (b 29), .ref (b 30), .int (m 31), .int (m 32), .int (m 33), .int (m 34), .int (m 35), .ref (b 36), .ref (b 37), .int (m 38), .ref (b 39), .ref (b 40), .int (m 41), .int (m 42), .int (m 43), .ref (b 44), .ref (b 45), .ref (b 46), .ref (b 47)])), (b 8, .inl (g 0, 120, .inl (fun i => nI (TP i)))), (b 10, .inl (g 0, 120, .inl (fun i => nI (TX i)))), (b 17, .inl (g 0, 6, .inl NM))]) rfl dX8_one_53 (fun H locs G => ?_)
      refine lv_aload_n Z.1 Z.2.1 dX8_one_56 rfl (lv_at hl 1 rfl) ?_
      refine lv_dup Z.1 Z.2.1 dX8_one_57 rfl ?_
      refine zk_get (C := RX8) (T := TX8) (N := 48) (ci := 8) Z hK G hinX8 0 rfl rfl 13 (by decide) (List.mem_cons_of_mem _ wa8_101) rfl (v := .int (nI p)) rfl dX8_one_58 ?_
      refine lv_iconst (v := nI 1) Z.1 Z.2.1 dX8_one_61 (by decide +kernel) ?_
      refine zk_iadd Z dX8_one_62 (z := nI (p + 1)) (nI_add _ _) ?_
      refine zk_put tyX8 tyX8_ok nmX8 (C := RX8) (T := TX8) (N := 48) (ci := 8) Z hK G hinX8 0 rfl rfl 13 (by decide) (List.mem_cons_of_mem _ wa8_101) rfl rfl rfl rfl (Nat.le_of_ble_eq_true rfl) (ws' := [(b 100, .inr (8, [.ref (b 0), .ref (b 1), .ref (b 2), .ref (b 3), .int (m 4), .int (m 5), .int (m 6), .int (m 7), .ref (b 8), .int (m 9), .ref (b 10), .int (m 11), .int (zm_bs tb), .int (nI (p + 1)), .int (nI ln), .int (-1), .int (nI (op + 1)), .ref (b 17), .ref (b 18), .ref (b 19), .ref (b 20), .ref (b 21), .ref (b 22), .ref (b 23), .ref (b 24), .int (m 25), .int (m 26), .int (m 27), .int (m 28), .ref (b 29), .ref (b 30), .int (m 31), .int (m 32), .int (m 33), .int (m 34), .int (m 35), .ref (b 36), .ref (b 37), .int (m 38), .ref (b 39), .ref (b 40), .int (m 41), .int (m 42), .int (m 43), .ref (b 44), .ref (b 45), .ref (b 46), .ref (b 47)])), (b 8, .inl (g 0, 120, .inl (fun i => nI (TP i)))), (b 10, .inl (g 0, 120, .inl (fun i => nI (TX i)))), (b 17, .inl (g 0, 6, .inl NM))]) rfl dX8_one_63 (fun H locs G => ?_)
      refine lv_iload_n Z.1 Z.2.1 dX8_one_66 rfl (lv_at hl 0 rfl) ?_
      refine lv_bipush (v := nI 40) Z.1 Z.2.1 dX8_one_67 (by decide +kernel) ?_
      refine lv_icmp_ne (tgt := 79) Z.1 Z.2.1 dX8_one_69 (by decide) (fun c69 => ?_) (fun c69 => ?_)
      · exfalso
        have c69 : zg_c (zm_tx tb TP TX) ln p ≠ 40 := zk_neq (by omega) (by omega) c69
        exact c69 htk
      have c69 : zg_c (zm_tx tb TP TX) ln p = 40 := zk_eq (by omega) (by omega) c69
      refine lv_aload_n Z.1 Z.2.1 dX8_one_72 rfl (lv_at hl 1 rfl) ?_
      refine zk_ci (WF := fun uu => [(b 100, .inr (8, [.ref (b 0), .ref (b 1), .ref (b 2), .ref (b 3), .int (m 4), .int (m 5), .int (m 6), .int (m 7), .ref (b 8), .int (m 9), .ref (b 10), .int (m 11), .int (zm_bs tb), .int (nI uu.1), .int (nI ln), .int uu.2.1, .int uu.2.2, .ref (b 17), .ref (b 18), .ref (b 19), .ref (b 20), .ref (b 21), .ref (b 22), .ref (b 23), .ref (b 24), .int (m 25), .int (m 26), .int (m 27), .int (m 28), .ref (b 29), .ref (b 30), .int (m 31), .int (m 32), .int (m 33), .int (m 34), .int (m 35), .ref (b 36), .ref (b 37), .int (m 38), .ref (b 39), .ref (b 40), .int (m 41), .int (m 42), .int (m 43), .ref (b 44), .ref (b 45), .ref (b 46), .ref (b 47)])), (b 8, .inl (g 0, 120, .inl (fun i => nI (TP i)))), (b 10, .inl (g 0, 120, .inl (fun i => nI (TX i)))), (b 17, .inl (g 0, 6, .inl NM))]) (wr := []) ⟨rfl, rfl⟩ (zk_rv (As := []) (rest := []) (q0 := 0) (ci := 8) Z ((ih.1 b m ln (p + 1) (op + 1) tb TP TX NM ST (by exact hln) (by omega) (by exact ht) (by omega) (by omega)) H.size) hK hT hA G [0, 1, 2, 3] rfl (by decide) rfl rfl gmX8_one_X8_either rfl dvX8_either ⟨by first | decide | (simp only [rm_X8_either, rm_X8_both, rm_X8_compared, rm_X8_sums, rm_X8_product, rm_X8_one]; omega), by first | decide | (simp only [rm_X8_either, rm_X8_both, rm_X8_compared, rm_X8_sums, rm_X8_product, rm_X8_one]; omega)⟩ rfl hl.1 rfl (Nat.le_of_ble_eq_true rfl) dX8_one_73 ⟨Nat.zero_le _, Nat.zero_le _⟩) hA G [0, 1, 2, 3] [] [0, 1, 2, 3] rfl rfl (by decide) (by decide) (by decide) (fun _ => rfl) (fun r_73 uu H locs w_73 G => ?_)
      obtain ⟨p1_73, ft1_73, oq1_73⟩ := uu
      have G : zk_G D aA [(b 100, .inr (8, [.ref (b 0), .ref (b 1), .ref (b 2), .ref (b 3), .int (m 4), .int (m 5), .int (m 6), .int (m 7), .ref (b 8), .int (m 9), .ref (b 10), .int (m 11), .int (zm_bs tb), .int (nI p1_73), .int (nI ln), .int ft1_73, .int oq1_73, .ref (b 17), .ref (b 18), .ref (b 19), .ref (b 20), .ref (b 21), .ref (b 22), .ref (b 23), .ref (b 24), .int (m 25), .int (m 26), .int (m 27), .int (m 28), .ref (b 29), .ref (b 30), .int (m 31), .int (m 32), .int (m 33), .int (m 34), .int (m 35), .ref (b 36), .ref (b 37), .int (m 38), .ref (b 39), .ref (b 40), .int (m 41), .int (m 42), .int (m 43), .ref (b 44), .ref (b 45), .ref (b 46), .ref (b 47)])), (b 8, .inl (g 0, 120, .inl (fun i => nI (TP i)))), (b 10, .inl (g 0, 120, .inl (fun i => nI (TX i)))), (b 17, .inl (g 0, 6, .inl NM))] sS H locs := G
      have zb_73 := zg_le (em := zm_em NM) (ln := ln) ht d 0 (op + 1) (p + 1) (ST) (by omega) (by omega) (by omega) (by omega)
      rcases hz_73 : zg (zm_tx tb TP TX) ln (zm_em NM) d 0 (op + 1) (p + 1) ST with e | ⟨a9, s9⟩
      · obtain ⟨h1_73, h2_73⟩ := zm_pl w_73 hz_73
        obtain rfl : p1_73 = e := h1_73
        obtain rfl : ft1_73 = nI p1_73 := h2_73
        have hb_73 := zb_73
        rw [hz_73] at hb_73
        have hp_73 : p1_73 ≤ ln := hb_73.2
        refine lv_goto (tgt := 83) Z.1 Z.2.1 dX8_one_76 (by decide) ?_
        refine lv_istore_n (lv' := [(2, .int r_73), (1, .int (nI (zg_c (zm_tx tb TP TX) ln p))), (0, .ref (b 100))]) Z.1 Z.2.1 dX8_one_83 rfl hl (by decide) rfl (fun ls hl => ?_)
        refine lv_iload_n Z.1 Z.2.1 dX8_one_84 rfl (lv_at hl 1 rfl) ?_
        refine lv_bipush (v := nI 40) Z.1 Z.2.1 dX8_one_85 (by decide +kernel) ?_
        refine lv_icmp_ne (tgt := 104) Z.1 Z.2.1 dX8_one_87 (by decide) (fun c87 => ?_) (fun c87 => ?_)
        · exfalso
          have c87 : zg_c (zm_tx tb TP TX) ln p ≠ 40 := zk_neq (by omega) (by omega) c87
          exact c87 htk
        have c87 : zg_c (zm_tx tb TP TX) ln p = 40 := zk_eq (by omega) (by omega) c87
        refine lv_aload_n Z.1 Z.2.1 dX8_one_90 rfl (lv_at hl 2 rfl) ?_
        refine lv_bipush (v := nI 41) Z.1 Z.2.1 dX8_one_91 (by decide +kernel) ?_
        refine zk_ci (WF := fun (_ : Unit) => [(b 100, .inr (8, [.ref (b 0), .ref (b 1), .ref (b 2), .ref (b 3), .int (m 4), .int (m 5), .int (m 6), .int (m 7), .ref (b 8), .int (m 9), .ref (b 10), .int (m 11), .int (zm_bs tb), .int (nI (if (decide ((nI p1_73 : Int32) < 0) && decide (zg_c (zm_tx tb TP TX) ln p1_73 = 41)) = true then p1_73 + 1 else p1_73)), .int (nI ln), .int (nI p1_73), .int oq1_73, .ref (b 17), .ref (b 18), .ref (b 19), .ref (b 20), .ref (b 21), .ref (b 22), .ref (b 23), .ref (b 24), .int (m 25), .int (m 26), .int (m 27), .int (m 28), .ref (b 29), .ref (b 30), .int (m 31), .int (m 32), .int (m 33), .int (m 34), .int (m 35), .ref (b 36), .ref (b 37), .int (m 38), .ref (b 39), .ref (b 40), .int (m 41), .int (m 42), .int (m 43), .ref (b 44), .ref (b 45), .ref (b 46), .ref (b 47)])), (b 8, .inl (g 0, 120, .inl (fun i => nI (TP i)))), (b 10, .inl (g 0, 120, .inl (fun i => nI (TX i)))), (b 17, .inl (g 0, 6, .inl NM))]) (wr := [(b 17, .inl (g 0, 6, .inl NM))]) ⟨rfl, rfl⟩ (zk_rv (As := [.int (nI 41)]) (rest := []) (q0 := 0) (ci := 8) Z ((ct_X8_takes l D g τ b m ln p1_73 (nI p1_73) tb TP TX oq1_73 41 (by exact hln) (by omega) (by exact ht) (by decide)) H.size) hK hT hA G [0, 1, 2] rfl (by decide) rfl rfl gmX8_one_X8_takes rfl dvX8_takes ⟨by first | decide | (simp only [rm_X8_either, rm_X8_both, rm_X8_compared, rm_X8_sums, rm_X8_product, rm_X8_one]; omega), by first | decide | (simp only [rm_X8_either, rm_X8_both, rm_X8_compared, rm_X8_sums, rm_X8_product, rm_X8_one]; omega)⟩ rfl hl.1 rfl (Nat.le_of_ble_eq_true rfl) dX8_one_93 ⟨Nat.zero_le _, Nat.zero_le _⟩) hA G [0, 1, 2] [3] [1, 2, 3, 0] rfl rfl (by decide) (by decide) (by decide) (fun _ => rfl) (fun r_93 _ H locs w_93 G => ?_)
        obtain rfl : r_93 = zk_b (decide ((nI p1_73 : Int32) < 0) && decide (zg_c (zm_tx tb TP TX) ln p1_73 = 41)) := w_93
        refine lv_if_ne (tgt := 104) Z.1 Z.2.1 dX8_one_96 (by decide) (fun c96 => ?_) (fun c96 => ?_)
        · exfalso
          have c96 : (decide ((nI p1_73 : Int32) < 0) && decide (zg_c (zm_tx tb TP TX) ln p1_73 = 41)) = true := zk_b1.mp c96
          rw [zm_fl (show p1_73 < 2 ^ 31 by omega)] at c96; exact absurd c96 (by simp)
        have c96 : (decide ((nI p1_73 : Int32) < 0) && decide (zg_c (zm_tx tb TP TX) ln p1_73 = 41)) = false := zk_b0.mp c96
        have G : zk_G D aA [(b 100, .inr (8, [.ref (b 0), .ref (b 1), .ref (b 2), .ref (b 3), .int (m 4), .int (m 5), .int (m 6), .int (m 7), .ref (b 8), .int (m 9), .ref (b 10), .int (m 11), .int (zm_bs tb), .int (nI p1_73), .int (nI ln), .int (nI p1_73), .int oq1_73, .ref (b 17), .ref (b 18), .ref (b 19), .ref (b 20), .ref (b 21), .ref (b 22), .ref (b 23), .ref (b 24), .int (m 25), .int (m 26), .int (m 27), .int (m 28), .ref (b 29), .ref (b 30), .int (m 31), .int (m 32), .int (m 33), .int (m 34), .int (m 35), .ref (b 36), .ref (b 37), .int (m 38), .ref (b 39), .ref (b 40), .int (m 41), .int (m 42), .int (m 43), .ref (b 44), .ref (b 45), .ref (b 46), .ref (b 47)])), (b 8, .inl (g 0, 120, .inl (fun i => nI (TP i)))), (b 10, .inl (g 0, 120, .inl (fun i => nI (TX i)))), (b 17, .inl (g 0, 6, .inl NM))] sS H locs := (by rw [if_neg (by rw [c96]; decide)] at G; exact G)
        refine lv_aload_n Z.1 Z.2.1 dX8_one_99 rfl (lv_at hl 2 rfl) ?_
        refine zk_ci (WF := fun (_ : Unit) => [(b 100, .inr (8, [.ref (b 0), .ref (b 1), .ref (b 2), .ref (b 3), .int (m 4), .int (m 5), .int (m 6), .int (m 7), .ref (b 8), .int (m 9), .ref (b 10), .int (m 11), .int (zm_bs tb), .int (nI p1_73), .int (nI ln), .int (if (nI p1_73) < 0 then nI p1_73 else (nI p1_73)), .int oq1_73, .ref (b 17), .ref (b 18), .ref (b 19), .ref (b 20), .ref (b 21), .ref (b 22), .ref (b 23), .ref (b 24), .int (m 25), .int (m 26), .int (m 27), .int (m 28), .ref (b 29), .ref (b 30), .int (m 31), .int (m 32), .int (m 33), .int (m 34), .int (m 35), .ref (b 36), .ref (b 37), .int (m 38), .ref (b 39), .ref (b 40), .int (m 41), .int (m 42), .int (m 43), .ref (b 44), .ref (b 45), .ref (b 46), .ref (b 47)])), (b 8, .inl (g 0, 120, .inl (fun i => nI (TP i)))), (b 10, .inl (g 0, 120, .inl (fun i => nI (TX i)))), (b 17, .inl (g 0, 6, .inl NM))]) (wr := [(b 8, .inl (g 0, 120, .inl (fun i => nI (TP i)))), (b 10, .inl (g 0, 120, .inl (fun i => nI (TX i)))), (b 17, .inl (g 0, 6, .inl NM))]) ⟨rfl, rfl⟩ (zk_rv (As := []) (rest := []) (q0 := 0) (ci := 8) Z ((ct_X8_wrong l D g τ b m ln p1_73 (nI p1_73) tb oq1_73 ) H.size) hK hT hA G [0] rfl (by decide) rfl rfl gmX8_one_X8_wrong rfl dvX8_wrong ⟨by first | decide | (simp only [rm_X8_either, rm_X8_both, rm_X8_compared, rm_X8_sums, rm_X8_product, rm_X8_one]; omega), by first | decide | (simp only [rm_X8_either, rm_X8_both, rm_X8_compared, rm_X8_sums, rm_X8_product, rm_X8_one]; omega)⟩ rfl hl.1 rfl (Nat.le_of_ble_eq_true rfl) dX8_one_100 ⟨Nat.zero_le _, Nat.zero_le _⟩) hA G [0] [1, 2, 3] [3, 0, 1, 2] rfl rfl (by decide) (by decide) (by decide) (fun _ => rfl) (fun r_100 _ H locs w_100 G => ?_)
        obtain rfl : r_100 = nI 0 := w_100
        have G : zk_G D aA [(b 100, .inr (8, [.ref (b 0), .ref (b 1), .ref (b 2), .ref (b 3), .int (m 4), .int (m 5), .int (m 6), .int (m 7), .ref (b 8), .int (m 9), .ref (b 10), .int (m 11), .int (zm_bs tb), .int (nI p1_73), .int (nI ln), .int (nI p1_73), .int oq1_73, .ref (b 17), .ref (b 18), .ref (b 19), .ref (b 20), .ref (b 21), .ref (b 22), .ref (b 23), .ref (b 24), .int (m 25), .int (m 26), .int (m 27), .int (m 28), .ref (b 29), .ref (b 30), .int (m 31), .int (m 32), .int (m 33), .int (m 34), .int (m 35), .ref (b 36), .ref (b 37), .int (m 38), .ref (b 39), .ref (b 40), .int (m 41), .int (m 42), .int (m 43), .ref (b 44), .ref (b 45), .ref (b 46), .ref (b 47)])), (b 8, .inl (g 0, 120, .inl (fun i => nI (TP i)))), (b 10, .inl (g 0, 120, .inl (fun i => nI (TX i)))), (b 17, .inl (g 0, 6, .inl NM))] sS H locs := (by rw [if_neg (nI_pos (show p1_73 < 2 ^ 31 by omega))] at G; exact G)
        exact zk_reti Z hR_ hlk hK hQ G (p1_73, nI p1_73, oq1_73) (by simp only [zg]; rw [if_neg (by decide), if_neg (by rw [htk]; decide), if_neg (by rw [htk]; decide), if_neg (by rw [htk]; omega), if_pos htk, hz_73]; exact ⟨rfl, rfl⟩) rfl dX8_one_103
      · obtain ⟨h1_73, h2_73, h3_73, h4_73⟩ := zm_pr w_73 hz_73
        obtain rfl : p1_73 = a9 := h1_73
        obtain rfl : ft1_73 = -1 := h2_73
        obtain rfl : oq1_73 = nI (op + 1) := h3_73
        obtain rfl : s9 = r_73 :: ST := h4_73
        have hb_73 := zb_73
        rw [hz_73] at hb_73
        have hp_73 : p1_73 ≤ ln := hb_73.2
        have hq_73 : p + 1 ≤ p1_73 := hb_73.1
        refine lv_goto (tgt := 83) Z.1 Z.2.1 dX8_one_76 (by decide) ?_
        refine lv_istore_n (lv' := [(2, .int r_73), (1, .int (nI (zg_c (zm_tx tb TP TX) ln p))), (0, .ref (b 100))]) Z.1 Z.2.1 dX8_one_83 rfl hl (by decide) rfl (fun ls hl => ?_)
        refine lv_iload_n Z.1 Z.2.1 dX8_one_84 rfl (lv_at hl 1 rfl) ?_
        refine lv_bipush (v := nI 40) Z.1 Z.2.1 dX8_one_85 (by decide +kernel) ?_
        refine lv_icmp_ne (tgt := 104) Z.1 Z.2.1 dX8_one_87 (by decide) (fun c87 => ?_) (fun c87 => ?_)
        · exfalso
          have c87 : zg_c (zm_tx tb TP TX) ln p ≠ 40 := zk_neq (by omega) (by omega) c87
          exact c87 htk
        have c87 : zg_c (zm_tx tb TP TX) ln p = 40 := zk_eq (by omega) (by omega) c87
        refine lv_aload_n Z.1 Z.2.1 dX8_one_90 rfl (lv_at hl 2 rfl) ?_
        refine lv_bipush (v := nI 41) Z.1 Z.2.1 dX8_one_91 (by decide +kernel) ?_
        refine zk_ci (WF := fun (_ : Unit) => [(b 100, .inr (8, [.ref (b 0), .ref (b 1), .ref (b 2), .ref (b 3), .int (m 4), .int (m 5), .int (m 6), .int (m 7), .ref (b 8), .int (m 9), .ref (b 10), .int (m 11), .int (zm_bs tb), .int (nI (if (decide (((-1) : Int32) < 0) && decide (zg_c (zm_tx tb TP TX) ln p1_73 = 41)) = true then p1_73 + 1 else p1_73)), .int (nI ln), .int (-1), .int (nI (op + 1)), .ref (b 17), .ref (b 18), .ref (b 19), .ref (b 20), .ref (b 21), .ref (b 22), .ref (b 23), .ref (b 24), .int (m 25), .int (m 26), .int (m 27), .int (m 28), .ref (b 29), .ref (b 30), .int (m 31), .int (m 32), .int (m 33), .int (m 34), .int (m 35), .ref (b 36), .ref (b 37), .int (m 38), .ref (b 39), .ref (b 40), .int (m 41), .int (m 42), .int (m 43), .ref (b 44), .ref (b 45), .ref (b 46), .ref (b 47)])), (b 8, .inl (g 0, 120, .inl (fun i => nI (TP i)))), (b 10, .inl (g 0, 120, .inl (fun i => nI (TX i)))), (b 17, .inl (g 0, 6, .inl NM))]) (wr := [(b 17, .inl (g 0, 6, .inl NM))]) ⟨rfl, rfl⟩ (zk_rv (As := [.int (nI 41)]) (rest := []) (q0 := 0) (ci := 8) Z ((ct_X8_takes l D g τ b m ln p1_73 (-1) tb TP TX (nI (op + 1)) 41 (by exact hln) (by omega) (by exact ht) (by decide)) H.size) hK hT hA G [0, 1, 2] rfl (by decide) rfl rfl gmX8_one_X8_takes rfl dvX8_takes ⟨by first | decide | (simp only [rm_X8_either, rm_X8_both, rm_X8_compared, rm_X8_sums, rm_X8_product, rm_X8_one]; omega), by first | decide | (simp only [rm_X8_either, rm_X8_both, rm_X8_compared, rm_X8_sums, rm_X8_product, rm_X8_one]; omega)⟩ rfl hl.1 rfl (Nat.le_of_ble_eq_true rfl) dX8_one_93 ⟨Nat.zero_le _, Nat.zero_le _⟩) hA G [0, 1, 2] [3] [1, 2, 3, 0] rfl rfl (by decide) (by decide) (by decide) (fun _ => rfl) (fun r_93 _ H locs w_93 G => ?_)
        obtain rfl : r_93 = zk_b (decide (((-1) : Int32) < 0) && decide (zg_c (zm_tx tb TP TX) ln p1_73 = 41)) := w_93
        refine lv_if_ne (tgt := 104) Z.1 Z.2.1 dX8_one_96 (by decide) (fun c96 => ?_) (fun c96 => ?_)
        · have c96 : (decide (((-1) : Int32) < 0) && decide (zg_c (zm_tx tb TP TX) ln p1_73 = 41)) = true := zk_b1.mp c96
          have h41 : zg_c (zm_tx tb TP TX) ln p1_73 = 41 := of_decide_eq_true (Bool.and_eq_true _ _ ▸ c96).2
          have G : zk_G D aA [(b 100, .inr (8, [.ref (b 0), .ref (b 1), .ref (b 2), .ref (b 3), .int (m 4), .int (m 5), .int (m 6), .int (m 7), .ref (b 8), .int (m 9), .ref (b 10), .int (m 11), .int (zm_bs tb), .int (nI (p1_73 + 1)), .int (nI ln), .int (-1), .int (nI (op + 1)), .ref (b 17), .ref (b 18), .ref (b 19), .ref (b 20), .ref (b 21), .ref (b 22), .ref (b 23), .ref (b 24), .int (m 25), .int (m 26), .int (m 27), .int (m 28), .ref (b 29), .ref (b 30), .int (m 31), .int (m 32), .int (m 33), .int (m 34), .int (m 35), .ref (b 36), .ref (b 37), .int (m 38), .ref (b 39), .ref (b 40), .int (m 41), .int (m 42), .int (m 43), .ref (b 44), .ref (b 45), .ref (b 46), .ref (b 47)])), (b 8, .inl (g 0, 120, .inl (fun i => nI (TP i)))), (b 10, .inl (g 0, 120, .inl (fun i => nI (TX i)))), (b 17, .inl (g 0, 6, .inl NM))] sS H locs := (by rw [if_pos c96] at G; exact G)
          refine lv_aload_n Z.1 Z.2.1 dX8_one_104 rfl (lv_at hl 2 rfl) ?_
          refine lv_dup Z.1 Z.2.1 dX8_one_105 rfl ?_
          refine zk_get (C := RX8) (T := TX8) (N := 48) (ci := 8) Z hK G hinX8 0 rfl rfl 16 (by decide) (List.mem_cons_of_mem _ wa8_126) rfl (v := .int (nI (op + 1))) rfl dX8_one_106 ?_
          refine lv_iconst (v := nI 1) Z.1 Z.2.1 dX8_one_109 (by decide +kernel) ?_
          refine zk_isub Z dX8_one_110 (z := nI ((op + 1) - 1)) (pk_sub (by omega)) ?_
          refine zk_put tyX8 tyX8_ok nmX8 (C := RX8) (T := TX8) (N := 48) (ci := 8) Z hK G hinX8 0 rfl rfl 16 (by decide) (List.mem_cons_of_mem _ wa8_126) rfl rfl rfl rfl (Nat.le_of_ble_eq_true rfl) (ws' := [(b 100, .inr (8, [.ref (b 0), .ref (b 1), .ref (b 2), .ref (b 3), .int (m 4), .int (m 5), .int (m 6), .int (m 7), .ref (b 8), .int (m 9), .ref (b 10), .int (m 11), .int (zm_bs tb), .int (nI (p1_73 + 1)), .int (nI ln), .int (-1), .int (nI ((op + 1) - 1)), .ref (b 17), .ref (b 18), .ref (b 19), .ref (b 20), .ref (b 21), .ref (b 22), .ref (b 23), .ref (b 24), .int (m 25), .int (m 26), .int (m 27), .int (m 28), .ref (b 29), .ref (b 30), .int (m 31), .int (m 32), .int (m 33), .int (m 34), .int (m 35), .ref (b 36), .ref (b 37), .int (m 38), .ref (b 39), .ref (b 40), .int (m 41), .int (m 42), .int (m 43), .ref (b 44), .ref (b 45), .ref (b 46), .ref (b 47)])), (b 8, .inl (g 0, 120, .inl (fun i => nI (TP i)))), (b 10, .inl (g 0, 120, .inl (fun i => nI (TX i)))), (b 17, .inl (g 0, 6, .inl NM))]) rfl dX8_one_111 (fun H locs G => ?_)
          refine lv_iload_n Z.1 Z.2.1 dX8_one_114 rfl (lv_at hl 1 rfl) ?_
          refine lv_bipush (v := nI 40) Z.1 Z.2.1 dX8_one_115 (by decide +kernel) ?_
          refine lv_icmp_ne (tgt := 124) Z.1 Z.2.1 dX8_one_117 (by decide) (fun c117 => ?_) (fun c117 => ?_)
          · exfalso
            have c117 : zg_c (zm_tx tb TP TX) ln p ≠ 40 := zk_neq (by omega) (by omega) c117
            exact c117 htk
          have c117 : zg_c (zm_tx tb TP TX) ln p = 40 := zk_eq (by omega) (by omega) c117
          refine lv_iload_n Z.1 Z.2.1 dX8_one_120 rfl (lv_at hl 0 rfl) ?_
          refine lv_goto (tgt := 144) Z.1 Z.2.1 dX8_one_121 (by decide) ?_
          exact zk_reti Z hR_ hlk hK hQ G (p1_73 + 1, -1, nI (op + 1 - 1)) (by simp only [zg]; rw [if_neg (by decide), if_neg (by rw [htk]; decide), if_neg (by rw [htk]; decide), if_neg (by rw [htk]; omega), if_pos htk, hz_73]; try simp only []; rw [if_pos h41]; exact ⟨rfl, rfl, rfl, rfl⟩) rfl dX8_one_144
        have c96 : (decide (((-1) : Int32) < 0) && decide (zg_c (zm_tx tb TP TX) ln p1_73 = 41)) = false := zk_b0.mp c96
        have h41 : ¬ zg_c (zm_tx tb TP TX) ln p1_73 = 41 := fun q9 => by have h9 := c96; rw [decide_eq_true q9] at h9; exact absurd h9 (by decide)
        have G : zk_G D aA [(b 100, .inr (8, [.ref (b 0), .ref (b 1), .ref (b 2), .ref (b 3), .int (m 4), .int (m 5), .int (m 6), .int (m 7), .ref (b 8), .int (m 9), .ref (b 10), .int (m 11), .int (zm_bs tb), .int (nI p1_73), .int (nI ln), .int (-1), .int (nI (op + 1)), .ref (b 17), .ref (b 18), .ref (b 19), .ref (b 20), .ref (b 21), .ref (b 22), .ref (b 23), .ref (b 24), .int (m 25), .int (m 26), .int (m 27), .int (m 28), .ref (b 29), .ref (b 30), .int (m 31), .int (m 32), .int (m 33), .int (m 34), .int (m 35), .ref (b 36), .ref (b 37), .int (m 38), .ref (b 39), .ref (b 40), .int (m 41), .int (m 42), .int (m 43), .ref (b 44), .ref (b 45), .ref (b 46), .ref (b 47)])), (b 8, .inl (g 0, 120, .inl (fun i => nI (TP i)))), (b 10, .inl (g 0, 120, .inl (fun i => nI (TX i)))), (b 17, .inl (g 0, 6, .inl NM))] sS H locs := (by rw [if_neg (by rw [c96]; decide)] at G; exact G)
        refine lv_aload_n Z.1 Z.2.1 dX8_one_99 rfl (lv_at hl 2 rfl) ?_
        refine zk_ci (WF := fun (_ : Unit) => [(b 100, .inr (8, [.ref (b 0), .ref (b 1), .ref (b 2), .ref (b 3), .int (m 4), .int (m 5), .int (m 6), .int (m 7), .ref (b 8), .int (m 9), .ref (b 10), .int (m 11), .int (zm_bs tb), .int (nI p1_73), .int (nI ln), .int (if (-1) < 0 then nI p1_73 else (-1)), .int (nI (op + 1)), .ref (b 17), .ref (b 18), .ref (b 19), .ref (b 20), .ref (b 21), .ref (b 22), .ref (b 23), .ref (b 24), .int (m 25), .int (m 26), .int (m 27), .int (m 28), .ref (b 29), .ref (b 30), .int (m 31), .int (m 32), .int (m 33), .int (m 34), .int (m 35), .ref (b 36), .ref (b 37), .int (m 38), .ref (b 39), .ref (b 40), .int (m 41), .int (m 42), .int (m 43), .ref (b 44), .ref (b 45), .ref (b 46), .ref (b 47)])), (b 8, .inl (g 0, 120, .inl (fun i => nI (TP i)))), (b 10, .inl (g 0, 120, .inl (fun i => nI (TX i)))), (b 17, .inl (g 0, 6, .inl NM))]) (wr := [(b 8, .inl (g 0, 120, .inl (fun i => nI (TP i)))), (b 10, .inl (g 0, 120, .inl (fun i => nI (TX i)))), (b 17, .inl (g 0, 6, .inl NM))]) ⟨rfl, rfl⟩ (zk_rv (As := []) (rest := []) (q0 := 0) (ci := 8) Z ((ct_X8_wrong l D g τ b m ln p1_73 (-1) tb (nI (op + 1)) ) H.size) hK hT hA G [0] rfl (by decide) rfl rfl gmX8_one_X8_wrong rfl dvX8_wrong ⟨by first | decide | (simp only [rm_X8_either, rm_X8_both, rm_X8_compared, rm_X8_sums, rm_X8_product, rm_X8_one]; omega), by first | decide | (simp only [rm_X8_either, rm_X8_both, rm_X8_compared, rm_X8_sums, rm_X8_product, rm_X8_one]; omega)⟩ rfl hl.1 rfl (Nat.le_of_ble_eq_true rfl) dX8_one_100 ⟨Nat.zero_le _, Nat.zero_le _⟩) hA G [0] [1, 2, 3] [3, 0, 1, 2] rfl rfl (by decide) (by decide) (by decide) (fun _ => rfl) (fun r_100 _ H locs w_100 G => ?_)
        obtain rfl : r_100 = nI 0 := w_100
        have G : zk_G D aA [(b 100, .inr (8, [.ref (b 0), .ref (b 1), .ref (b 2), .ref (b 3), .int (m 4), .int (m 5), .int (m 6), .int (m 7), .ref (b 8), .int (m 9), .ref (b 10), .int (m 11), .int (zm_bs tb), .int (nI p1_73), .int (nI ln), .int (nI p1_73), .int (nI (op + 1)), .ref (b 17), .ref (b 18), .ref (b 19), .ref (b 20), .ref (b 21), .ref (b 22), .ref (b 23), .ref (b 24), .int (m 25), .int (m 26), .int (m 27), .int (m 28), .ref (b 29), .ref (b 30), .int (m 31), .int (m 32), .int (m 33), .int (m 34), .int (m 35), .ref (b 36), .ref (b 37), .int (m 38), .ref (b 39), .ref (b 40), .int (m 41), .int (m 42), .int (m 43), .ref (b 44), .ref (b 45), .ref (b 46), .ref (b 47)])), (b 8, .inl (g 0, 120, .inl (fun i => nI (TP i)))), (b 10, .inl (g 0, 120, .inl (fun i => nI (TX i)))), (b 17, .inl (g 0, 6, .inl NM))] sS H locs := (by rw [if_pos (by decide)] at G; exact G)
        exact zk_reti Z hR_ hlk hK hQ G (p1_73, nI p1_73, nI (op + 1)) (by simp only [zg]; rw [if_neg (by decide), if_neg (by rw [htk]; decide), if_neg (by rw [htk]; decide), if_neg (by rw [htk]; omega), if_pos htk, hz_73]; try simp only []; rw [if_neg h41]; exact ⟨rfl, rfl⟩) rfl dX8_one_103
    have c38 : op = 6 := zk_eq (by omega) (by omega) c38
    refine lv_aload_n Z.1 Z.2.1 dX8_one_41 rfl (lv_at hl 1 rfl) ?_
    refine zk_ci (WF := fun (_ : Unit) => [(b 100, .inr (8, [.ref (b 0), .ref (b 1), .ref (b 2), .ref (b 3), .int (m 4), .int (m 5), .int (m 6), .int (m 7), .ref (b 8), .int (m 9), .ref (b 10), .int (m 11), .int (zm_bs tb), .int (nI p), .int (nI ln), .int (if (-1) < 0 then nI p else (-1)), .int (nI op), .ref (b 17), .ref (b 18), .ref (b 19), .ref (b 20), .ref (b 21), .ref (b 22), .ref (b 23), .ref (b 24), .int (m 25), .int (m 26), .int (m 27), .int (m 28), .ref (b 29), .ref (b 30), .int (m 31), .int (m 32), .int (m 33), .int (m 34), .int (m 35), .ref (b 36), .ref (b 37), .int (m 38), .ref (b 39), .ref (b 40), .int (m 41), .int (m 42), .int (m 43), .ref (b 44), .ref (b 45), .ref (b 46), .ref (b 47)])), (b 8, .inl (g 0, 120, .inl (fun i => nI (TP i)))), (b 10, .inl (g 0, 120, .inl (fun i => nI (TX i)))), (b 17, .inl (g 0, 6, .inl NM))]) (wr := [(b 8, .inl (g 0, 120, .inl (fun i => nI (TP i)))), (b 10, .inl (g 0, 120, .inl (fun i => nI (TX i)))), (b 17, .inl (g 0, 6, .inl NM))]) ⟨rfl, rfl⟩ (zk_rv (As := []) (rest := []) (q0 := 0) (ci := 8) Z ((ct_X8_wrong l D g τ b m ln p (-1) tb (nI op) ) H.size) hK hT hA G [0] rfl (by decide) rfl rfl gmX8_one_X8_wrong rfl dvX8_wrong ⟨by first | decide | (simp only [rm_X8_either, rm_X8_both, rm_X8_compared, rm_X8_sums, rm_X8_product, rm_X8_one]; omega), by first | decide | (simp only [rm_X8_either, rm_X8_both, rm_X8_compared, rm_X8_sums, rm_X8_product, rm_X8_one]; omega)⟩ rfl hl.1 rfl (Nat.le_of_ble_eq_true rfl) dX8_one_42 ⟨Nat.zero_le _, Nat.zero_le _⟩) hA G [0] [1, 2, 3] [3, 0, 1, 2] rfl rfl (by decide) (by decide) (by decide) (fun _ => rfl) (fun r_42 _ H locs w_42 G => ?_)
    obtain rfl : r_42 = nI 0 := w_42
    have G : zk_G D aA [(b 100, .inr (8, [.ref (b 0), .ref (b 1), .ref (b 2), .ref (b 3), .int (m 4), .int (m 5), .int (m 6), .int (m 7), .ref (b 8), .int (m 9), .ref (b 10), .int (m 11), .int (zm_bs tb), .int (nI p), .int (nI ln), .int (nI p), .int (nI op), .ref (b 17), .ref (b 18), .ref (b 19), .ref (b 20), .ref (b 21), .ref (b 22), .ref (b 23), .ref (b 24), .int (m 25), .int (m 26), .int (m 27), .int (m 28), .ref (b 29), .ref (b 30), .int (m 31), .int (m 32), .int (m 33), .int (m 34), .int (m 35), .ref (b 36), .ref (b 37), .int (m 38), .ref (b 39), .ref (b 40), .int (m 41), .int (m 42), .int (m 43), .ref (b 44), .ref (b 45), .ref (b 46), .ref (b 47)])), (b 8, .inl (g 0, 120, .inl (fun i => nI (TP i)))), (b 10, .inl (g 0, 120, .inl (fun i => nI (TX i)))), (b 17, .inl (g 0, 6, .inl NM))] sS H locs := (by rw [if_pos (by decide)] at G; exact G)
    exact zk_reti Z hR_ hlk hK hQ G (p, nI p, nI op) (by simp only [zg]; rw [if_neg (by decide), if_neg (by rw [htk]; decide), if_neg (by rw [htk]; decide), if_pos (Or.inl (by omega))]; exact ⟨rfl, rfl⟩) rfl dX8_one_45
  exfalso
  have c4 : ¬ ((-1) : Int32) < 0 := c4
  exact c4 (by decide)

theorem zm_allL (l : Launch) (D : va_G) (g : Nat → ClassId) (τ : Nat → Nat) : ∀ d, zm_L0 l D g τ d ∧ zm_L1 l D g τ d ∧ zm_L2 l D g τ d ∧ zm_L3 l D g τ d ∧ zm_L4 l D g τ d ∧ zm_L5 l D g τ d
  | 0 => ⟨by unfold zm_L0; intros; omega, by unfold zm_L1; intros; omega, by unfold zm_L2; intros; omega, by unfold zm_L3; intros; omega, by unfold zm_L4; intros; omega, by unfold zm_L5; intros; omega⟩
  | d + 1 => ⟨ct_X8_either_s l D g τ d (zm_allL l D g τ d), ct_X8_both_s l D g τ d (zm_allL l D g τ d), ct_X8_compared_s l D g τ d (zm_allL l D g τ d), ct_X8_sums_s l D g τ d (zm_allL l D g τ d), ct_X8_product_s l D g τ d (zm_allL l D g τ d), ct_X8_one_s l D g τ d (zm_allL l D g τ d)⟩

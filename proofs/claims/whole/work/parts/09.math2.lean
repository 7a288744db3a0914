/-! What a call's numbers may be: pairs, worlds, steps. -/
theorem zb_lt (a b : Int32) : a < b ↔ a.toInt < b.toInt := Int32.lt_iff_toInt_lt
theorem zb_le (a b : Int32) : a ≤ b ↔ a.toInt ≤ b.toInt := Int32.le_iff_toInt_le
theorem zb_ltL (a b : Int64) : a < b ↔ a.toInt < b.toInt := Int64.lt_iff_toInt_lt
theorem zb_wide (a b : Int32) : a.toInt64 < b.toInt64 ↔ a < b := by rw [zb_ltL, zb_lt, Int32.toInt_toInt64, Int32.toInt_toInt64]
def zb_pair (n : Nat) (pq : Int32) : Bool := decide (0 ≤ pq.toInt) && decide (pq.toInt.toNat / 10 < n) && decide (pq.toInt.toNat % 10 < n) && decide (pq.toInt.toNat / 10 ≠ pq.toInt.toNat % 10)
def zb_w (n : Nat) (w : Int32) : Bool := decide (0 ≤ w.toInt) && decide (w.toInt.toNat < n)
def zb_s (t : Int32) : Bool := decide (0 ≤ t.toInt) && decide (t.toInt ≤ 999999)
theorem zb_nn {x : Int32} (h : ¬ x < 0) : 0 ≤ x.toInt := by
  rw [zb_lt] at h
  have : (0 : Int32).toInt = 0 := by decide
  omega
theorem zb_neg {x : Int32} (h : x < 0) : ¬ 0 ≤ x.toInt := by
  rw [zb_lt] at h
  have : (0 : Int32).toInt = 0 := by decide
  omega
theorem zb_of {x : Int32} (h : 0 ≤ x.toInt) : ∃ j : Nat, j < 2 ^ 31 ∧ x = nI j ∧ x.toInt.toNat = j := by
  obtain ⟨j, hj, rfl⟩ := nI_of (x := x) (by rw [zb_lt]; have : (0 : Int32).toInt = 0 := by decide
                                            omega)
  exact ⟨j, hj, rfl, by rw [nI_toInt hj]; rfl⟩
theorem zb_nat {j : Nat} (hj : j < 2 ^ 31) : (nI j).toInt.toNat = j := by rw [nI_toInt hj]; rfl
theorem zb_nat0 {j : Nat} (hj : j < 2 ^ 31) : 0 ≤ (nI j).toInt := by rw [nI_toInt hj]; omega
theorem zb_pair_n {n j : Nat} (hj : j < 2 ^ 31) : zb_pair n (nI j) = (decide (j / 10 < n) && decide (j % 10 < n) && decide (j / 10 ≠ j % 10)) := by
  simp only [zb_pair, zb_nat hj, zb_nat0 hj, decide_true, Bool.true_and]
theorem zb_pair_neg {n : Nat} {x : Int32} (h : x < 0) : zb_pair n x = false := by
  simp only [zb_pair, zb_neg h, decide_false, Bool.false_and]
theorem zb_pair_ex {n : Nat} {x : Int32} (h : zb_pair n x = true) : ∃ j : Nat, j < 2 ^ 31 ∧ x = nI j ∧ j / 10 < n ∧ j % 10 < n ∧ j / 10 ≠ j % 10 := by
  simp only [zb_pair, Bool.and_eq_true, decide_eq_true_eq] at h
  obtain ⟨j, hj, rfl, e⟩ := zb_of h.1.1.1
  rw [e] at h
  exact ⟨j, hj, rfl, h.1.1.2, h.1.2, h.2⟩
theorem zb_w_n {n j : Nat} (hj : j < 2 ^ 31) : zb_w n (nI j) = decide (j < n) := by
  simp only [zb_w, zb_nat hj, zb_nat0 hj, decide_true, Bool.true_and]
theorem zb_w_ex {n : Nat} {x : Int32} (h : zb_w n x = true) : ∃ j : Nat, j < 2 ^ 31 ∧ x = nI j ∧ j < n := by
  simp only [zb_w, Bool.and_eq_true, decide_eq_true_eq] at h
  obtain ⟨j, hj, rfl, e⟩ := zb_of h.1
  rw [e] at h
  exact ⟨j, hj, rfl, h.2⟩
theorem zb_s_n {j : Nat} (hj : j < 2 ^ 31) : zb_s (nI j) = decide (j ≤ 999999) := by
  simp only [zb_s, nI_toInt hj]
  rw [show decide (0 ≤ (j : Int)) = true from decide_eq_true (by omega), Bool.true_and]
  congr 1; apply propext; omega
theorem zb_s_ex {x : Int32} (h : zb_s x = true) : ∃ j : Nat, j < 2 ^ 31 ∧ x = nI j ∧ j ≤ 999999 := by
  simp only [zb_s, Bool.and_eq_true, decide_eq_true_eq] at h
  obtain ⟨j, hj, rfl, e⟩ := zb_of h.1
  refine ⟨j, hj, rfl, ?_⟩
  have := h.2
  rw [nI_toInt hj] at this
  omega
/-- the model's way of asking: as longs, between two -/
def zm_in (v a b : Int64) : Bool := decide (¬ v < a) && decide (¬ b < v)
theorem zm_lt {v a : Int64} (h : lg_cmp v a < 0) : v < a := (lg_cmp_lt v a).mp h
theorem zm_nlt {v a : Int64} (h : ¬ lg_cmp v a < 0) : ¬ v < a := fun q => h ((lg_cmp_lt v a).mpr q)
theorem zm_gt {v a : Int64} (h : 0 < lg_cmp v a) : a < v := (lg_cmp_gt v a).mp h
theorem zm_ngt {v a : Int64} (h : ¬ 0 < lg_cmp v a) : ¬ a < v := fun q => h ((lg_cmp_gt v a).mpr q)
theorem zm_in_w {n : Nat} (hn : n < 2 ^ 30) (w : Int32) : zm_in w.toInt64 (lN 0) (nI n - nI 1).toInt64 = zb_w n w := by
  have e0 : (lN 0 : Int64) = (nI 0).toInt64 := by decide
  have e1 : (nI n - nI 1).toInt = (n : Int) - 1 := by rw [pk_sub_toInt hn (by decide)]; rfl
  simp only [zm_in, zb_w, e0, zb_wide, zb_lt, e1]
  have e2 : (nI 0).toInt = 0 := by decide
  rw [e2]
  rw [Bool.eq_iff_iff]
  simp only [Bool.and_eq_true, decide_eq_true_eq]
  omega
theorem zm_in_s (t : Int32) : zm_in t.toInt64 (lN 0) (lN 999999) = zb_s t := by
  have e0 : (lN 0 : Int64) = (nI 0).toInt64 := by decide
  have e1 : (lN 999999 : Int64) = (nI 999999).toInt64 := by decide
  simp only [zm_in, zb_s, e0, e1, zb_wide, zb_lt]
  have e2 : (nI 0).toInt = 0 := by decide
  have e3 : (nI 999999).toInt = 999999 := by decide
  rw [e2, e3, Bool.eq_iff_iff]
  simp only [Bool.and_eq_true, decide_eq_true_eq]
  omega
theorem zm_in_c (t : Int32) (a b : Nat) (ha : a < 2 ^ 31) (hb : b < 2 ^ 31) : zm_in t.toInt64 (lN a) (lN b) = (decide (a ≤ t.toInt) && decide (t.toInt ≤ b)) := by
  have e0 : (lN a : Int64) = (nI a).toInt64 := (nI_l ha).symm
  have e1 : (lN b : Int64) = (nI b).toInt64 := (nI_l hb).symm
  simp only [zm_in, e0, e1, zb_wide, zb_lt, nI_toInt ha, nI_toInt hb]
  rw [Bool.eq_iff_iff]
  simp only [Bool.and_eq_true, decide_eq_true_eq]
  omega
abbrev zm_S (M : Nat → Nat) : Nat → Nat := fun w => M (7 + w)
abbrev zm_R (M : Nat → Nat) : Nat → Nat := fun w => M (14 + w)
def zm_one (x y z : Int64) : Bool := zm_in x (lN 1) (lN 12) && zm_in y (lN 0) (x - lN 1) && zm_in z (lN 1) (lN 9)
theorem zb_w_neg {n : Nat} {x : Int32} (h : x < 0) : zb_w n x = false := by simp only [zb_w, zb_neg h, decide_false, Bool.false_and]
theorem zb_s_neg {x : Int32} (h : x < 0) : zb_s x = false := by simp only [zb_s, zb_neg h, decide_false, Bool.false_and]
theorem zs_isW_n {a b : Nat} {z : Int32} (ha : a < 2 ^ 31) (hb : b < 2 ^ 31) (h : zs_isW (nI a) (nI b) z = true) : 1 ≤ a ∧ a ≤ 12 ∧ b < a ∧ ∃ r, z = nI r ∧ 1 ≤ r ∧ r ≤ 9 := by
  simp only [zs_isW, Bool.and_eq_true, decide_eq_true_eq, zb_lt, zb_le, nI_toInt ha, nI_toInt hb] at h
  have e1 : (1 : Int32).toInt = 1 := by decide
  have e2 : (12 : Int32).toInt = 12 := by decide
  have e3 : (9 : Int32).toInt = 9 := by decide
  rw [e1, e2, e3] at h
  obtain ⟨j, hj, rfl, -⟩ := zb_of (x := z) (by omega)
  rw [nI_toInt hj] at h
  exact ⟨by omega, by omega, by omega, j, rfl, by omega, by omega⟩
def zt_wok (ps ring : Int32) : Bool := decide (0 ≤ ps.toInt) && zs_isW (nI (ps.toInt.toNat / 100)) (nI (ps.toInt.toNat % 100)) ring
theorem zt_wok_neg {ps ring : Int32} (h : ps < 0) : zt_wok ps ring = false := by simp only [zt_wok, zb_neg h, decide_false, Bool.false_and]
theorem zt_wok_n {j : Nat} {ring : Int32} (hj : j < 2 ^ 31) : zt_wok (nI j) ring = zs_isW (nI (j / 100)) (nI (j % 100)) ring := by simp only [zt_wok, zb_nat hj, zb_nat0 hj, decide_true, Bool.true_and]
def zt_place (n : Nat) (P S : Nat → Nat) (w t : Int32) : Int32 := if (zb_w n w && zb_s t) = true then nI (zs_at P S w.toInt.toNat t.toInt.toNat) else (-1)
def zs_cnt (s : Nat → Bool) : Nat → Nat | 0 => 0 | k + 1 => zs_cnt s k + (if s k then 1 else 0)
theorem zs_cnt_le (s : Nat → Bool) : ∀ k, zs_cnt s k ≤ k
  | 0 => Nat.le_refl _
  | k + 1 => by have := zs_cnt_le s k; simp only [zs_cnt]; split <;> omega
theorem zs_cnt_y {s : Nat → Bool} {k : Nat} (h : s k = true) : zs_cnt s k + 1 = zs_cnt s (k + 1) := by simp only [zs_cnt, h]; rfl
theorem zs_cnt_n {s : Nat → Bool} {k : Nat} (h : s k = false) : zs_cnt s k = zs_cnt s (k + 1) := by simp only [zs_cnt, h]; rfl
def zt_low (x y : Nat) (part : Int32) : Nat := if part = 0 then x / Nat.gcd x y else y / Nat.gcd x y
def zt_sees (n : Nat) (s : Nat → Nat → Nat → Bool) (pq t : Int32) : Int32 := if (zb_pair n pq && zb_s t) = true then (if s (pq.toInt.toNat / 10) (pq.toInt.toNat % 10) t.toInt.toNat then nI 1 else nI 0) else (-1)
def zt_sights (n : Nat) (P : Nat → Nat) (s : Nat → Nat → Nat → Bool) (pq part : Int32) : Int32 :=
  if (zb_pair n pq && (decide (¬ part < 0) && decide (¬ 1 < part))) = true then nI (zt_low (zs_cnt (s (pq.toInt.toNat / 10) (pq.toInt.toNat % 10)) (zs_lcm (P (pq.toInt.toNat / 10)) (P (pq.toInt.toNat % 10)))) (zs_lcm (P (pq.toInt.toNat / 10)) (P (pq.toInt.toNat % 10))) part) else (-1)
/-! The law as codes: what they work out to. -/
def zl_op (c : Nat) (x y : Int32) : Int32 :=
  if c = 5 then 0 - y else if c = 6 then (if y = 0 then nI 1 else nI 0) else if c = 37 then (if y = 0 then nI 0 else x - x / y * y) else if c = 38 then (if x = 0 then nI 0 else if y = 0 then nI 0 else nI 1)
  else if c = 42 then x * y else if c = 43 then x + y else if c = 45 then x - y else if c = 47 then (if y = 0 then nI 0 else x / y) else if c = 60 then (if y ≤ x then nI 0 else nI 1) else if c = 61 then (if x = y then nI 1 else nI 0)
  else if c = 62 then (if x ≤ y then nI 0 else nI 1) else if c = 124 then (if x = 0 then (if y = 0 then nI 0 else nI 1) else nI 1) else nI 0
def zl_run (C X : Nat → Nat) (sz : Nat) (nm : Nat → Int32) : Nat → Nat → List Int32 → Int32
  | 0, _, _ => nI 0
  | f + 1, i, st => if i < sz then
      (if C i = 1 ∨ C i = 2 then (if 128 ≤ st.length then nI 0 else zl_run C X sz nm f (i + 1) ((if C i = 1 then nI (X i) else nm (X i)) :: st))
       else match st with
        | [] => nI 0
        | y :: r => if C i = 4 then y else if C i = 3 then (if y = 0 then zl_run C X sz nm f (max i (X i - 1) + 1) r else zl_run C X sz nm f (i + 1) r)
            else if C i = 6 ∨ C i = 5 then zl_run C X sz nm f (i + 1) (zl_op (C i) y y :: r)
            else match r with
              | [] => nI 0
              | x :: q => zl_run C X sz nm f (i + 1) (zl_op (C i) x y :: q))
     else nI 0
theorem zl_run_s (C X : Nat → Nat) (sz : Nat) (nm : Nat → Int32) (f i : Nat) (st : List Int32) : zl_run C X sz nm (f + 1) i st = (
      if i < sz then
      (if C i = 1 ∨ C i = 2 then (if 128 ≤ st.length then nI 0 else zl_run C X sz nm f (i + 1) ((if C i = 1 then nI (X i) else nm (X i)) :: st))
       else match st with
        | [] => nI 0
        | y :: r => if C i = 4 then y else if C i = 3 then (if y = 0 then zl_run C X sz nm f (max i (X i - 1) + 1) r else zl_run C X sz nm f (i + 1) r)
            else if C i = 6 ∨ C i = 5 then zl_run C X sz nm f (i + 1) (zl_op (C i) y y :: r)
            else match r with
              | [] => nI 0
              | x :: q => zl_run C X sz nm f (i + 1) (zl_op (C i) x y :: q))
     else nI 0) := rfl
def zl_ev (C X : Nat → Nat) (sz : Nat) (nm : Nat → Int32) : Int32 := zl_run C X sz nm (sz + 1) 0 []
def zl_wf (C X : Nat → Nat) (sz : Nat) : Prop := sz ≤ 128 ∧ ∀ i, i < sz → C i < 256 ∧ X i < 10000 ∧ (C i = 2 → X i < 6)
/-- what lies on the stack -/
def zl_rep (k : Nat → Int32) : List Int32 → Prop
  | [] => True
  | x :: r => k r.length = x ∧ zl_rep k r
theorem zl_rep_up {k : Nat → Int32} {v : Int32} : ∀ {st : List Int32} {j : Nat}, st.length ≤ j → zl_rep k st → zl_rep (upd k j v) st
  | [], _, _, _ => trivial
  | x :: r, j, h, hr => by
    have h' : r.length + 1 ≤ j := h
    exact ⟨by simp only [upd]; rw [if_neg (by omega)]; exact hr.1, zl_rep_up (by omega) hr.2⟩
theorem zl_rep_push {k : Nat → Int32} {v : Int32} {st : List Int32} (h : zl_rep k st) : zl_rep (upd k st.length v) (v :: st) := ⟨by simp [upd], zl_rep_up (Nat.le_refl _) h⟩
theorem zl_max {i v : Nat} (hi : i < 2 ^ 30) (hv : v < 2 ^ 30) : (if nI i < nI v - nI 1 then nI v - nI 1 else nI i) = nI (max i (v - 1)) := by
  rcases Nat.eq_zero_or_pos v with h | h
  · subst h
    have e : ¬ nI i < nI 0 - nI 1 := by
      rw [Int32.lt_iff_toInt_lt, pk_sub_toInt (by decide) (by decide), nI_toInt (by omega)]; omega
    rw [if_neg e, Nat.zero_sub, Nat.max_zero]
  · rw [pk_sub h]
    exact zk_nmax (by omega) (by omega)
/-! Sights: the table of what was seen. -/
theorem zs_see_f {tl : Bool} {ev : (Nat → Int32) → Int32} {P R : Nat → Nat} {hide i j pa pb : Nat} (h : tl = false) : zs_see tl ev P R hide i j pa pb = decide (zs_ap (zs_pl P i pa) (zs_pl P j pb) + hide ≤ 180) := by
  subst h; rfl
theorem zs_see_t {tl : Bool} {ev : (Nat → Int32) → Int32} {P R : Nat → Nat} {hide i j pa pb : Nat} (h : tl = true) : zs_see tl ev P R hide i j pa pb = decide (¬ ev (fun k => nI (zs_nm (zs_ap (zs_pl P i pa) (zs_pl P j pb)) (R i) (R j) hide (zs_pl P i pa) (zs_pl P j pb) k)) = 0) := by
  subst h; rfl
theorem zs_abs {a b : Nat} (ha : a < 2 ^ 30) (hb : b < 2 ^ 30) : (if 0 ≤ nI a - nI b then nI a - nI b else 0 - (nI a - nI b)) = nI (zs_far a b) := by
  by_cases h : a < b
  · have e : ¬ 0 ≤ nI a - nI b := by
      rw [Int32.le_iff_toInt_le, pk_sub_toInt ha hb]; have : (0 : Int32).toInt = 0 := by decide
      omega
    rw [if_neg e, zs_far, if_pos h, ← pk_sub (Nat.le_of_lt h)]
    rw [← Int32.toBitVec_inj]; simp
  · have e : 0 ≤ nI a - nI b := by
      rw [Int32.le_iff_toInt_le, pk_sub_toInt ha hb]; have : (0 : Int32).toInt = 0 := by decide
      omega
    rw [if_pos e, zs_far, if_neg h, ← pk_sub (Nat.not_lt.mp h)]
theorem zs_far_lt {a b c : Nat} (ha : a < c) (hb : b < c) : zs_far a b < c := by unfold zs_far; split <;> omega
def zs_sk (tl : Bool) (ev : (Nat → Int32) → Int32) (P R : Nat → Nat) (hide k pa pb : Nat) : Bool := zs_see tl ev P R hide (zk_les k) (zk_gre k) pa pb
def zs_ok (tl : Bool) (ev : (Nat → Int32) → Int32) (P R : Nat → Nat) (hide n : Nat) (T : Nat → Int32) : Prop :=
  ∀ k, k < 21 → zk_gre k < n → ∀ pa pb, pa < P (zk_les k) → pb < P (zk_gre k) → T (k * 144 + pa * 12 + pb) = nI 0 ∨ T (k * 144 + pa * 12 + pb) = (if zs_sk tl ev P R hide k pa pb then nI 2 else nI 1)
theorem zs_ok_up {tl : Bool} {ev : (Nat → Int32) → Int32} {P R S : Nat → Nat} {hide n : Nat} {T : Nat → Int32} (hW : zs_W n P S) (h : zs_ok tl ev P R hide n T) {k pa pb : Nat} (hk : zk_gre k < n) (hk2 : k < 21) (ha : pa < P (zk_les k)) (hb : pb < P (zk_gre k)) {v : Int32} (hv : v = (if zs_sk tl ev P R hide k pa pb then nI 2 else nI 1)) : zs_ok tl ev P R hide n (upd T (k * 144 + pa * 12 + pb) v) := by
  intro k2 h1 h2 pa2 pb2 h3 h4
  have q1 := zk_les_gre hk2
  have q2 := zk_les_gre h1
  have a1 := (hW.2 (zk_les k) (by omega)).2.1
  have a2 := (hW.2 (zk_gre k) hk).2.1
  have a3 := (hW.2 (zk_les k2) (by omega)).2.1
  have a4 := (hW.2 (zk_gre k2) h2).2.1
  by_cases e : k2 * 144 + pa2 * 12 + pb2 = k * 144 + pa * 12 + pb
  · have e1 : k2 = k := by omega
    have e2 : pa2 = pa := by omega
    have e3 : pb2 = pb := by omega
    subst e1 e2 e3
    exact Or.inr ((show upd T (k2 * 144 + pa2 * 12 + pb2) v (k2 * 144 + pa2 * 12 + pb2) = v from pk_us).trans hv)
  · simp only [upd]; rw [if_neg e]; exact h k2 h1 h2 pa2 pb2 h3 h4
theorem zs_two {b : Bool} {x : Int32} (e : x = if b then nI 2 else nI 1) : (x = 2 → b = true) ∧ (¬ x = 2 → b = false) := by
  cases b
  · exact ⟨fun h => by rw [e] at h; exact absurd h (by decide), fun _ => rfl⟩
  · exact ⟨fun _ => rfl, fun h => absurd e h⟩
/-- a row of ints told by another function that is the same within it -/
theorem zk_ext {D : va_G} {A : Nat → Prop} {ws ws' : va_W} {s : State} {H : Heap} {locs : List Loc} (G : zk_G D A ws s H locs) (q0 : Nat) {a n : Nat} {cA : ClassId} {f f' : Nat → Int32} (ha : ws[q0]? = some (a, .inl (cA, n, .inl f))) (h : ∀ j, j < n → f j = f' j) (hw : ws.set q0 (a, .inl (cA, n, .inl f')) = ws') : zk_G D A ws' s H locs := by
  subst hw
  have e : vp_cell cA (n, .inl f) = vp_cell cA (n, .inl f') := by
    show arrV cA n (fun j => .int (f j)) = arrV cA n (fun j => .int (f' j))
    have q : (fun j : Fin n => Value.int (f j.val)) = fun j : Fin n => Value.int (f' j.val) := funext fun j => by rw [h j.val j.isLt]
    simp only [arrV, q]
  refine ⟨G.1.set G.2.1 ha ?_ (fun _ _ => rfl), G.2.1.set ha, G.2.2⟩
  have := G.1 q0 _ ha
  show H[a]? = some (vp_cell cA (n, .inl f'))
  rw [← e]; exact this
/-- two see each other at a step; the sights where the worlds are turned to -/
def zs_meet (tl : Bool) (ev : (Nat → Int32) → Int32) (P S R : Nat → Nat) (hide p q t : Nat) : Bool := zs_see tl ev P R hide (min p q) (max p q) (zs_ph P S (min p q) t) (zs_ph P S (max p q) t)
def zs_sF (tl : Bool) (ev : (Nat → Int32) → Int32) (P R : Nat → Nat) (hide : Nat) (F : Nat → Nat) (k : Nat) : Bool := zs_sk tl ev P R hide k (F (zk_les k)) (F (zk_gre k))
def zs_sT (tl : Bool) (ev : (Nat → Int32) → Int32) (P S R : Nat → Nat) (hide t k : Nat) : Bool := zs_sk tl ev P R hide k (zs_ph P S (zk_les k) t) (zs_ph P S (zk_gre k) t)
theorem zs_nm_ext {nm : Nat → Int32} {v0 v1 v2 v3 v4 v5 : Nat} : ∀ j, j < 6 → upd (upd (upd (upd (upd (upd nm 0 (nI v0)) 1 (nI v1)) 2 (nI v2)) 3 (nI v3)) 4 (nI v4)) 5 (nI v5) j = nI (zs_nm v0 v1 v2 v3 v4 v5 j) := by
  intro j hj
  have h9 : j = 0 ∨ j = 1 ∨ j = 2 ∨ j = 3 ∨ j = 4 ∨ j = 5 := by omega
  rcases h9 with rfl | rfl | rfl | rfl | rfl | rfl <;> rfl
/-! Bits, in naturals. -/
theorem zw_sl : ∀ n, n < 32 → ((nI n &&& 31).toBitVec.smod 32).toNat = n := by decide +kernel
theorem zw_su : ∀ n, n < 32 → (((nI n).toUInt32 &&& Int32.toUInt32 31).toBitVec % 32).toNat = n := by decide +kernel
theorem zw_and (a b : Nat) : nI a &&& nI b = nI (a &&& b) := by
  apply Int32.toBitVec_inj.1
  show BitVec.ofNat 32 a &&& BitVec.ofNat 32 b = BitVec.ofNat 32 (a &&& b)
  apply BitVec.eq_of_getLsbD_eq
  intro i hi
  simp [hi]
theorem zw_or (a b : Nat) : nI a ||| nI b = nI (a ||| b) := by
  apply Int32.toBitVec_inj.1
  show BitVec.ofNat 32 a ||| BitVec.ofNat 32 b = BitVec.ofNat 32 (a ||| b)
  apply BitVec.eq_of_getLsbD_eq
  intro i hi
  simp [hi]
theorem zw_1 {k : Nat} (h : k < 31) : nI 1 <<< (nI k &&& 31) = nI (2 ^ k) := by
  have h2 : 1 * 2 ^ k < 2 ^ 32 := by
    rw [Nat.one_mul]; exact Nat.pow_lt_pow_right (by decide) (by omega)
  rw [pk_shlN (nI k &&& 31) k (zw_sl k (by omega)) h2, Nat.one_mul]
theorem zw_ush {n k : Nat} (hn : n < 2 ^ 32) (hk : k < 32) : ((nI n).toUInt32 >>> ((nI k).toUInt32 &&& Int32.toUInt32 31)).toInt32 = nI (n / 2 ^ k) := pk_ushrN hn (nI k) k (zw_su k hk)
theorem zw_a1 (n : Nat) : nI n &&& nI 1 = nI (n % 2) := by
  rw [zw_and, show (1 : Nat) = 2 ^ 1 - 1 from rfl, Nat.and_two_pow_sub_one_eq_mod]
/-- a word of sights: bit k for what s says of k -/
def zw (s : Nat → Bool) : Nat → Nat | 0 => 0 | k + 1 => zw s k + (if s k then 2 ^ k else 0)
theorem zw_lt (s : Nat → Bool) : ∀ k, zw s k < 2 ^ k
  | 0 => Nat.zero_lt_one
  | k + 1 => by
    have h := zw_lt s k
    have e : 2 ^ (k + 1) = 2 ^ k + 2 ^ k := by rw [Nat.pow_succ]; omega
    simp only [zw]; split <;> omega
theorem zw_or1 (s : Nat → Bool) (k : Nat) : zw s k ||| 2 ^ k = zw s k + 2 ^ k := by
  have h := Nat.two_pow_add_eq_or_of_lt (zw_lt s k) 1
  rw [Nat.mul_one] at h
  rw [Nat.or_comm, ← h, Nat.add_comm]
theorem zw_bit (s : Nat → Bool) : ∀ {K k : Nat}, zw s K / 2 ^ k % 2 = (if k < K ∧ s k = true then 1 else 0)
  | 0, k => by simp [zw]
  | K + 1, k => by
    have ih := zw_bit s (K := K) (k := k)
    have hlt := zw_lt s K
    simp only [zw]
    by_cases hs : s K = true
    · rw [if_pos hs]
      by_cases h1 : k = K
      · subst h1
        rw [Nat.add_div_right _ (Nat.two_pow_pos k), Nat.div_eq_of_lt hlt, if_pos ⟨Nat.lt_succ_self k, hs⟩]
      · by_cases h2 : k < K
        · obtain ⟨d, rfl⟩ : ∃ d, K = k + 1 + d := ⟨K - (k + 1), by omega⟩
          have e : 2 ^ (k + 1 + d) = 2 ^ k * (2 * 2 ^ d) := by rw [Nat.pow_add, Nat.pow_succ, Nat.mul_assoc]
          rw [e, Nat.add_mul_div_left _ _ (Nat.two_pow_pos k), Nat.add_mul_mod_self_left, ih]
          have : (k < k + 1 + d ∧ s k = true) ↔ (k < k + 1 + d + 1 ∧ s k = true) := by constructor <;> (intro q; exact ⟨by omega, q.2⟩)
          simp only [this]
        · have hb : zw s K + 2 ^ K < 2 ^ k := by
            have : 2 ^ (K + 1) ≤ 2 ^ k := Nat.pow_le_pow_right (by decide) (by omega)
            have e2 : 2 ^ (K + 1) = 2 ^ K + 2 ^ K := by rw [Nat.pow_succ]; omega
            omega
          rw [Nat.div_eq_of_lt hb, if_neg (by omega)]
    · rw [if_neg hs, Nat.add_zero, ih]
      have : (k < K ∧ s k = true) ↔ (k < K + 1 ∧ s k = true) := by
        constructor
        · intro q; exact ⟨by omega, q.2⟩
        · intro q
          refine ⟨?_, q.2⟩
          rcases Nat.lt_or_ge k K with h | h
          · exact h
          · have : k = K := by omega
            rw [this] at q; exact absurd q.2 hs
      simp only [this]
def zw_all (s : Nat → Bool) : Nat → Bool | 0 => true | k + 1 => zw_all s k && s k
theorem zw_all_no {s : Nat → Bool} {k : Nat} (h : s k = false) : ∀ {K : Nat}, k < K → zw_all s K = false
  | 0, q => absurd q (Nat.not_lt_zero k)
  | K + 1, q => by
    simp only [zw_all]
    rcases Nat.lt_or_ge k K with h1 | h1
    · rw [zw_all_no h h1]; rfl
    · have : k = K := by omega
      rw [← this, h, Bool.and_false]
/-- worlds reached at once by a word, in the end by it -/
def zw_both (k : Nat) : Nat := 2 ^ zk_les k ||| 2 ^ zk_gre k
def zw_bes (W D : Nat) : Nat → Nat | 0 => W | k + 1 => if D / 2 ^ k % 2 = 1 ∧ W &&& zw_both k ≠ 0 then zw_bes W D k ||| zw_both k else zw_bes W D k
theorem zw_both_lt (k : Nat) : zw_both k < 2 ^ 7 := by
  have h1 : 2 ^ zk_les k < 2 ^ 7 := Nat.pow_lt_pow_right (by decide) (by have := zk_les_lt k; omega)
  have h2 : 2 ^ zk_gre k < 2 ^ 7 := Nat.pow_lt_pow_right (by decide) (zk_gre_lt k)
  exact Nat.or_lt_two_pow h1 h2
theorem zw_bes_lt {W D : Nat} (h : W < 2 ^ 7) : ∀ k, zw_bes W D k < 2 ^ 7
  | 0 => h
  | k + 1 => by
    simp only [zw_bes]; split
    · exact Nat.or_lt_two_pow (zw_bes_lt h k) (zw_both_lt k)
    · exact zw_bes_lt h k
def zw_rch (D K : Nat) : Nat → Nat → Nat | 0, b => b | f + 1, b => if zw_bes b D K = b then b else zw_rch D K f (zw_bes b D K)
theorem zw_rch_lt {D K : Nat} : ∀ {f b : Nat}, b < 2 ^ 7 → zw_rch D K f b < 2 ^ 7
  | 0, _, h => h
  | f + 1, b, h => by
    simp only [zw_rch]; split
    · exact h
    · exact zw_rch_lt (zw_bes_lt h K)
def zw_any (s : Nat → Bool) : Nat → Bool | 0 => false | k + 1 => zw_any s k || s k
theorem zw_tri {j : Nat} (h : j < 8) : j * (j - 1) / 2 + j = (j + 1) * (j + 1 - 1) / 2 := by
  have key : ∀ j, j < 8 → j * (j - 1) / 2 + j = (j + 1) * (j + 1 - 1) / 2 := by decide
  exact key j h
theorem zw_tri_lt {i j n : Nat} (h : i < j) (hj : j < n) (hn : n ≤ 7) : j * (j - 1) / 2 + i < n * (n - 1) / 2 := by
  have key : ∀ n, n < 8 → ∀ j, j < n → ∀ i, i < j → j * (j - 1) / 2 + i < n * (n - 1) / 2 := by decide +kernel
  exact key n (by omega) j hj i h
theorem zw_tri_gre {n k : Nat} (hn : n ≤ 7) (h : k < n * (n - 1) / 2) : k < 21 ∧ zk_gre k < n := by
  have key : ∀ n, n < 8 → ∀ k, k < n * (n - 1) / 2 → k < 21 ∧ zk_gre k < n := by decide +kernel
  exact key n (by omega) k h
def zw_p (b : Bool) (k : Nat) : Nat := if b then 2 ^ k else 0
theorem zw_pb {x k : Nat} (hx : x < 2 ^ k) (b : Bool) : (x + zw_p b k) / 2 ^ k % 2 = if b then 1 else 0 := by
  cases b
  · show (x + 0) / 2 ^ k % 2 = 0
    rw [Nat.add_zero, Nat.div_eq_of_lt hx]
  · show (x + 2 ^ k) / 2 ^ k % 2 = 1
    rw [Nat.add_div_right _ (Nat.two_pow_pos k), Nat.div_eq_of_lt hx]
theorem zw_any_mono {s : Nat → Bool} : ∀ {K k : Nat}, k ≤ K → zw_any s k = true → zw_any s K = true
  | 0, k, h, q => by have : k = 0 := by omega
                     subst this; exact q
  | K + 1, k, h, q => by
    rcases Nat.lt_or_ge k (K + 1) with h1 | h1
    · simp only [zw_any, zw_any_mono (K := K) (by omega) q, Bool.true_or]
    · have : k = K + 1 := by omega
      subst this; exact q
/-- pairs that see each other at some step of theirs -/
def zw_ev (tl : Bool) (ev : (Nat → Int32) → Int32) (P S R : Nat → Nat) (hide k : Nat) : Bool := zw_any (fun t => zs_sT tl ev P S R hide t k) (zs_lcm (P (zk_les k)) (P (zk_gre k)))
def zw_led (tl : Bool) (ev : (Nat → Int32) → Int32) (P S R : Nat → Nat) (hide n p q : Nat) : Bool := decide (zw_rch (zw (zw_ev tl ev P S R hide) (n * (n - 1) / 2)) (n * (n - 1) / 2) 7 (2 ^ p) &&& 2 ^ q ≠ 0)
theorem zw_le21 {n : Nat} (hn : n ≤ 7) : n * (n - 1) / 2 ≤ 21 := by
  have key : ∀ n, n < 8 → n * (n - 1) / 2 ≤ 21 := by decide
  exact key n (by omega)
theorem zw_lt31 (s : Nat → Bool) {k : Nat} (h : k ≤ 21) : zw s k < 2 ^ 21 := Nat.lt_of_lt_of_le (zw_lt s k) (Nat.pow_le_pow_right (by decide) h)
theorem zw_p2 {k m : Nat} (h : k < m) : 2 ^ k < 2 ^ m := Nat.pow_lt_pow_right (by decide) h
theorem zs_suba {x a c : Nat} (h : a ≤ x + c) : nI x - nI a + nI c = nI (x + c - a) := by
  rw [← pk_sub h, ← nI_add, Int32.sub_eq_add_neg, Int32.sub_eq_add_neg, Int32.add_assoc, Int32.add_comm (-nI a), ← Int32.add_assoc]
/-- between two: by the class's way of counting -/
def zs_off (x f : Nat) : Nat := (x + 360 - f) % 360
def zs_bc (P S : Nat → Nat) (t f way w : Nat) : Bool := decide (0 < zs_off (zs_at P S w t) f) && decide (zs_off (zs_at P S w t) f < way)
def zs_btw (P S : Nat → Nat) (n p q t : Nat) : Nat :=
  if zs_off (zs_at P S q t) (zs_at P S p t) = 0 ∨ zs_off (zs_at P S q t) (zs_at P S p t) = 180 then 0
  else if 180 < zs_off (zs_at P S q t) (zs_at P S p t) then zw (zs_bc P S t (zs_at P S q t) (360 - zs_off (zs_at P S q t) (zs_at P S p t))) n
  else zw (zs_bc P S t (zs_at P S p t) (zs_off (zs_at P S q t) (zs_at P S p t))) n
theorem zs_at_lt {P S : Nat → Nat} {w t : Nat} (h : 1 ≤ P w) : zs_at P S w t < 360 := zs_pl_lt (zs_ph_lt h)

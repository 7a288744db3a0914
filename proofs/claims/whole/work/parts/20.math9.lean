/-! What is asked of the ways. -/
theorem zc_fst_c {s : Nat → Bool} : ∀ f t, zc_fst s f t = -2 ∨ ∃ m, zc_fst s f t = nI m ∧ t ≤ m ∧ m < t + f ∧ s m = true ∧ ∀ x, t ≤ x → x < m → s x = false
  | 0, _ => Or.inl rfl
  | f + 1, t => by
    by_cases h : s t = true
    · exact Or.inr ⟨t, zc_fst_y h, Nat.le_refl _, by omega, h, fun x h1 h2 => by omega⟩
    · have h' : s t = false := by cases h9 : s t; rfl; exact absurd h9 h
      rw [zc_fst_n h']
      rcases zc_fst_c f (t + 1) with h1 | ⟨m, h1, h2, h3, h4, h5⟩
      · exact Or.inl h1
      · refine Or.inr ⟨m, h1, by omega, by omega, h4, fun x h6 h7 => ?_⟩
        rcases Nat.lt_or_ge t x with h8 | h8
        · exact h5 x (by omega) h7
        · rw [show x = t by omega]; exact h'
theorem zu_few {L : Bool} {wd : Nat → Nat} {K p q t : Nat} (h : ¬ (if L = true then zv_few wd K p q t else (-2)) = (-2 : Int32)) : L = true ∧ ∃ m, (if L = true then zv_few wd K p q t else (-2)) = nI m ∧ zv_few wd K p q t = nI m ∧ 1 ≤ m ∧ m ≤ 600 ∧ ∀ x, 1 ≤ x → x < m → zv_at wd K p q t x = false := by
  by_cases hL : L = true
  · rw [if_pos hL] at h
    rcases zc_fst_c (s := zv_at wd K p q t) 600 1 with h1 | ⟨m, h1, h2, h3, h4, h5⟩
    · exact absurd h1 h
    · exact ⟨hL, m, by rw [if_pos hL]; exact h1, h1, h2, by omega, h5⟩
  · rw [if_neg hL] at h; exact absurd rfl h
theorem zv_D_cg {W W' : Nat → Nat} {K q steps : Nat} (h : ∀ x, x < steps → W x = W' x) : ∀ d, d ≤ steps → zv_D W K q steps d = zv_D W' K q steps d
  | 0, _ => rfl
  | d + 1, hd => by
    simp only [zv_D]; rw [zv_D_cg h d (by omega), h (steps - 1 - d) (by omega)]
theorem zv_Nf_cg {W W' : Nat → Nat} {K q steps : Nat} (h : ∀ x, x < steps → W x = W' x) : zv_Nf W K q steps = zv_Nf W' K q steps := funext fun x => by
  simp only [zv_Nf]; rw [zv_D_cg h _ (by omega)]
theorem zv_ho_cg {N W W' : Nat → Nat} {K n p : Nat} : ∀ j, (∀ x, x < j → W x = W' x) → zv_ho N W K n p j = zv_ho N W' K n p j
  | 0, _ => rfl
  | j + 1, h => by
    have e : ∀ b, zv_hs N W K b j = zv_hs N W' K b j := fun b => funext fun w => by simp only [zv_hs, h j (Nat.lt_succ_self j)]
    simp only [zv_ho, zv_nh]; rw [zv_ho_cg j (fun x hx => h x (by omega)), e]
def zu_soon (n : Nat) (ld : Nat → Nat → Bool) (fw : Nat → Nat → Nat → Int32) (pq t : Int32) : Int32 :=
  if (zb_pair n pq && zb_s t) = true then (if ld (zu_p pq) (zu_q pq) = true then fw (zu_p pq) (zu_q pq) t.toInt.toNat else (-2)) else (-1)
/-- who has it k steps on, on the way that takes m steps -/
def zu_who (wd : Nat → Nat) (K n p q t m k : Nat) : Nat := zv_ho (zv_Nf (fun x => wd (t + x)) K q m) (fun x => wd (t + x)) K n p k
def zu_way (n : Nat) (ld : Nat → Nat → Bool) (wd : Nat → Nat) (K : Nat) (pq t k : Int32) : Int32 :=
  if (zb_pair n pq && zb_s t && decide (0 ≤ k)) = true then
    (if (if ld (zu_p pq) (zu_q pq) = true then zv_few wd K (zu_p pq) (zu_q pq) t.toInt.toNat else (-2)) = (-2) then (-2)
     else if k ≤ zv_few wd K (zu_p pq) (zu_q pq) t.toInt.toNat then nI (zu_who wd K n (zu_p pq) (zu_q pq) t.toInt.toNat (zv_few wd K (zu_p pq) (zu_q pq) t.toInt.toNat).toInt.toNat k.toInt.toNat) else (-1)) else (-1)
theorem zb_0le {x : Int32} (h : 0 ≤ x) : ∃ j : Nat, j < 2 ^ 31 ∧ x = nI j := by
  obtain ⟨j, hj, e, -⟩ := zb_of (x := x) (by rw [Int32.le_iff_toInt_le] at h; have : (0 : Int32).toInt = 0 := by decide
                                             omega)
  exact ⟨j, hj, e⟩
def zu_waits (n : Nat) (wt : Nat → Nat → Nat → Nat) (R : Nat) (pq part : Int32) : Int32 :=
  if (zb_pair n pq && zu_01 part) = true then (if zv_ok (wt (zu_p pq) (zu_q pq)) R 600 = true then (if part = 0 then nI (zv_Lg (wt (zu_p pq) (zu_q pq)) R R).1 else nI (zv_Lg (wt (zu_p pq) (zu_q pq)) R R).2) else (-2)) else (-1)
def zu_relay (n : Nat) (rb : Nat → Nat → Nat → Nat → Nat → Int32 × Int32 × Nat) (pq pr part : Int32) : Int32 :=
  if (zb_pair n pq && (decide (0 ≤ pr.toInt) && zs_isW (nI (pr.toInt.toNat / 10)) (nI 0) (nI (pr.toInt.toNat % 10))) && zu_01 part) = true then
    (if (rb (zu_p pq) (zu_q pq) (pr.toInt.toNat / 10) (pr.toInt.toNat % 10) (pr.toInt.toNat / 10)).1 = (-2) then (-2)
     else if part = 0 then (rb (zu_p pq) (zu_q pq) (pr.toInt.toNat / 10) (pr.toInt.toNat % 10) (pr.toInt.toNat / 10)).1 else (rb (zu_p pq) (zu_q pq) (pr.toInt.toNat / 10) (pr.toInt.toNat % 10) (pr.toInt.toNat / 10)).2.1) else (-1)
/-- no more hands than there are other worlds -/
theorem zs_cnt_up {s s' : Nat → Bool} (h : ∀ x, s x = true → s' x = true) : ∀ k, zs_cnt s k ≤ zs_cnt s' k
  | 0 => Nat.le_refl _
  | k + 1 => by
    have ih := zs_cnt_up h k
    simp only [zs_cnt]
    by_cases q : s k = true
    · rw [if_pos q, if_pos (h k q)]; omega
    · rw [if_neg q]; split <;> omega
theorem zs_cnt_up1 {s s' : Nat → Bool} {y : Nat} (h : ∀ x, s x = true → s' x = true) (h1 : s y = false) (h2 : s' y = true) : ∀ k, y < k → zs_cnt s k + 1 ≤ zs_cnt s' k
  | 0, q => absurd q (Nat.not_lt_zero y)
  | k + 1, q => by
    simp only [zs_cnt]
    by_cases e : k = y
    · subst e
      have ih := zs_cnt_up h k
      rw [if_neg (by rw [h1]; decide), if_pos h2]; omega
    · have ih := zs_cnt_up1 h h1 h2 k (by omega)
      by_cases e2 : s k = true
      · rw [if_pos e2, if_pos (h k e2)]; omega
      · rw [if_neg e2]; split <;> omega
theorem zv_rn_1 {O : Nat → Nat} {w n i : Nat} : ∀ k, (∀ x, x < k → zk_les x < zk_gre x ∧ zk_gre x < n) → zv_rn O 1 w O k i = O i ∨ ∃ y, y < n ∧ zv_rn O 1 w O k i = O y + 1
  | 0, _ => Or.inl rfl
  | k + 1, h => by
    have ih := fun j => zv_rn_1 (O := O) (w := w) (n := n) (i := j) k (fun x hx => h x (by omega))
    obtain ⟨h1, h2⟩ := h k (Nat.lt_succ_self k)
    simp only [zv_rn]
    split
    · exact ih i
    · have c : zv_two O 1 (zk_les k) (zk_gre k) (zv_rn O 1 w O k) i = zv_rn O 1 w O k i ∨ zv_two O 1 (zk_les k) (zk_gre k) (zv_rn O 1 w O k) i = O (zk_gre k) + 1 ∨ zv_two O 1 (zk_les k) (zk_gre k) (zv_rn O 1 w O k) i = O (zk_les k) + 1 := by
        simp only [zv_two, zs_up]
        split
        · rename_i q9; rw [q9, if_neg (show ¬ zk_gre k = zk_les k by omega)]; omega
        · split
          · rename_i q9; rw [q9]; omega
          · omega
      rcases c with c | c | c
      · rw [c]; exact ih i
      · exact Or.inr ⟨_, h2, c⟩
      · exact Or.inr ⟨_, by omega, c⟩
def zv_fewer (n : Nat) (O : Nat → Nat) : Prop := ∀ i, i < n → O i < 1000000000 → O i ≤ zs_cnt (fun x => decide (O x < O i)) n
theorem zv_fewer_s {O : Nat → Nat} {w n : Nat} (hn : n ≤ 7) (h : zv_fewer n O) (hO : ∀ i, O i ≤ 1000000000) : zv_fewer n (zv_rn O 1 w O (n * (n - 1) / 2)) := by
  intro i hi hlt
  have hle := fun x => zv_rn_le O O 1 w x (n * (n - 1) / 2)
  rcases zv_rn_1 (O := O) (w := w) (n := n) (i := i) (n * (n - 1) / 2) (fun x hx => by
      have h1 := zw_tri_gre hn hx
      have h2 := zk_les_gre h1.1
      exact ⟨h2, h1.2⟩) with e | ⟨y, hy, e⟩
  · rw [e] at hlt ⊢
    refine Nat.le_trans (h i hi hlt) (zs_cnt_up (fun x hx => ?_) n)
    have hx' := of_decide_eq_true hx
    exact decide_eq_true (Nat.lt_of_le_of_lt (hle x) hx')
  · rw [e] at hlt ⊢
    have h2 := h y hy (by omega)
    refine Nat.le_trans (Nat.succ_le_succ h2) (zs_cnt_up1 (y := y) (fun x hx => ?_) (decide_eq_false (Nat.lt_irrefl _)) (decide_eq_true (Nat.lt_succ_of_le (hle y))) n hy)
    have hx' := of_decide_eq_true hx
    have := hle x
    exact decide_eq_true (by omega)
theorem zv_D_few {W : Nat → Nat} {q steps n : Nat} (hn : n ≤ 7) : ∀ d, zv_fewer n (zv_D W (n * (n - 1) / 2) q steps d)
  | 0 => by
    intro i hi hlt
    by_cases e : i = q
    · exact Nat.le_trans (Nat.le_of_eq (if_pos e)) (Nat.zero_le _)
    · have h1 : zv_D W (n * (n - 1) / 2) q steps 0 i = 1000000000 := if_neg e
      omega
  | d + 1 => zv_fewer_s hn (zv_D_few hn d) (fun i => zv_D_le _ _ _ _ _ _)
theorem zv_fewer_n {O : Nat → Nat} {n i : Nat} (h : zv_fewer n O) (hi : i < n) (hl : O i < 1000000000) : O i < n := by
  have h1 := h i hi hl
  have h2 := zs_cnt_up1 (s := fun x => decide (O x < O i)) (s' := fun _ => true) (y := i) (fun _ _ => rfl) (decide_eq_false (Nat.lt_irrefl _)) rfl n hi
  have h3 := zs_cnt_le (fun _ => true) n
  omega
def zu_okp (x : Int32) : Bool := decide (¬ x < 10) && decide (¬ 21 < x) && decide (x.toInt.toNat % 10 ≤ 1)
def zu_odds (storm h part : Nat) : Nat :=
  if part / 10 = 2 then zt_low (12 ^ h * 12 ^ h - (12 ^ h - (12 - storm) ^ h) * (12 ^ h - (12 - storm) ^ h)) (12 ^ h * 12 ^ h) (nI (part % 10))
  else zt_low ((12 - storm) ^ h) (12 ^ h) (nI (part % 10))
/-- hands on the way that takes m steps -/
def zu_hnd (wd : Nat → Nat) (K p q t m : Nat) : Nat := zv_D (fun x => wd (t + x)) K q m m p
def zu_safe (n storm : Nat) (ld : Nat → Nat → Bool) (wd : Nat → Nat) (K : Nat) (pq t part : Int32) : Int64 :=
  if (zb_pair n pq && zb_s t && zu_okp part) = true then
    (if (if ld (zu_p pq) (zu_q pq) = true then zv_few wd K (zu_p pq) (zu_q pq) t.toInt.toNat else (-2)) = (-2) then -9223372036854775808
     else lN (zu_odds storm (zu_hnd wd K (zu_p pq) (zu_q pq) t.toInt.toNat (zv_few wd K (zu_p pq) (zu_q pq) t.toInt.toNat).toInt.toNat) part.toInt.toNat)) else -9223372036854775808
/-! Meeting in the middle: who has it from the front, how many hands are needed from the back. -/
theorem zx_and (W a : Nat) : W &&& 2 ^ a ≠ 0 ↔ W.testBit a = true := by
  constructor
  · intro h
    cases hb : W.testBit a
    · exfalso
      apply h
      apply Nat.eq_of_testBit_eq
      intro i
      rw [Nat.testBit_and, Nat.testBit_two_pow, Nat.zero_testBit]
      by_cases e : a = i
      · rw [← e, hb]; rfl
      · rw [decide_eq_false e, Bool.and_false]
    · rfl
  · intro h q
    have h1 : (W &&& 2 ^ a).testBit a = true := by
      rw [Nat.testBit_and, Nat.testBit_two_pow, h, decide_eq_true rfl]; rfl
    rw [q, Nat.zero_testBit] at h1
    exact absurd h1 (by decide)
theorem zx_both (W k : Nat) : W &&& zw_both k ≠ 0 ↔ (W.testBit (zk_les k) = true ∨ W.testBit (zk_gre k) = true) := by
  rw [← zx_and, ← zx_and, zw_both, Nat.and_or_distrib_left]
  constructor
  · intro h
    by_cases h1 : W &&& 2 ^ zk_les k = 0
    · refine Or.inr (fun h2 => h ?_)
      rw [h1, h2]; rfl
    · exact Or.inl h1
  · intro h q
    have h1 : W &&& 2 ^ zk_les k ≤ (W &&& 2 ^ zk_les k ||| W &&& 2 ^ zk_gre k) := Nat.left_le_or
    have h2 : W &&& 2 ^ zk_gre k ≤ (W &&& 2 ^ zk_les k ||| W &&& 2 ^ zk_gre k) := Nat.right_le_or
    rcases h with h | h <;> omega
theorem zx_bb (k w : Nat) : (zw_both k).testBit w = (decide (zk_les k = w) || decide (zk_gre k = w)) := by
  rw [zw_both, Nat.testBit_or, Nat.testBit_two_pow, Nat.testBit_two_pow]
theorem zx_bes {W D w : Nat} : ∀ K, (zw_bes W D K).testBit w = true → W.testBit w = true ∨ ∃ k, k < K ∧ D / 2 ^ k % 2 = 1 ∧ ((zk_les k = w ∧ W.testBit (zk_gre k) = true) ∨ (zk_gre k = w ∧ W.testBit (zk_les k) = true))
  | 0, h => Or.inl h
  | K + 1, h => by
    simp only [zw_bes] at h
    have up : (zw_bes W D K).testBit w = true → W.testBit w = true ∨ ∃ k, k < K + 1 ∧ D / 2 ^ k % 2 = 1 ∧ ((zk_les k = w ∧ W.testBit (zk_gre k) = true) ∨ (zk_gre k = w ∧ W.testBit (zk_les k) = true)) := fun h1 => by
      rcases zx_bes K h1 with h2 | ⟨k, h2, h3⟩
      · exact Or.inl h2
      · exact Or.inr ⟨k, by omega, h3⟩
    split at h
    · rename_i hc
      rw [Nat.testBit_or, Bool.or_eq_true] at h
      rcases h with h | h
      · exact up h
      · rw [zx_bb, Bool.or_eq_true] at h
        have hb := (zx_both W K).mp hc.2
        rcases h with h | h
        · have e := of_decide_eq_true h
          rcases hb with hb | hb
          · exact Or.inl (e ▸ hb)
          · exact Or.inr ⟨K, Nat.lt_succ_self K, hc.1, Or.inl ⟨e, hb⟩⟩
        · have e := of_decide_eq_true h
          rcases hb with hb | hb
          · exact Or.inr ⟨K, Nat.lt_succ_self K, hc.1, Or.inr ⟨e, hb⟩⟩
          · exact Or.inl (e ▸ hb)
    · exact up h
theorem zx_pair {O B : Nat → Nat} {hand w k : Nat} (hk : k < 21) (h : w / 2 ^ k % 2 ≠ 0) : ∀ K, k < K → zv_rn O hand w B K (zk_les k) ≤ O (zk_gre k) + hand ∧ zv_rn O hand w B K (zk_gre k) ≤ O (zk_les k) + hand
  | 0, q => absurd q (Nat.not_lt_zero k)
  | K + 1, q => by
    have hl := zk_les_gre hk
    by_cases e : k = K
    · subst e
      rw [zv_rn_y h]
      simp only [zv_two, zs_up, if_neg (show ¬ zk_les k = zk_gre k by omega), if_true]
      constructor <;> omega
    · have ih := zx_pair (O := O) (B := B) (hand := hand) hk h K (by omega)
      simp only [zv_rn]
      split
      · exact ih
      · have h1 := zv_two_le O hand (zk_les K) (zk_gre K) (zv_rn O hand w B K) (zk_les k)
        have h2 := zv_two_le O hand (zk_les K) (zk_gre K) (zv_rn O hand w B K) (zk_gre k)
        exact ⟨Nat.le_trans h1 ih.1, Nat.le_trans h2 ih.2⟩
theorem zx_meet {wd : Nat → Nat} {n p q t m : Nat} (hn : n ≤ 7) (hp : p < n) (hq : q < n) (h : zv_at wd (n * (n - 1) / 2) p q t m = true) : zv_D (fun x => wd (t + x)) (n * (n - 1) / 2) q m m p < n := by
  have fin : ∀ d w, w < n → zv_D (fun x => wd (t + x)) (n * (n - 1) / 2) q m d w < 1000000000 → zv_D (fun x => wd (t + x)) (n * (n - 1) / 2) q m d w < n := fun d w hw => zv_fewer_n (zv_D_few hn d) hw
  have key : ∀ d, d ≤ m → ∃ w, w < n ∧ (zv_hv wd (n * (n - 1) / 2) p t (m - d)).testBit w = true ∧ zv_D (fun x => wd (t + x)) (n * (n - 1) / 2) q m d w < 1000000000 := by
    intro d
    induction d with
    | zero =>
      intro _
      refine ⟨q, hq, (zx_and _ _).mp (of_decide_eq_true h), ?_⟩
      have : zv_D (fun x => wd (t + x)) (n * (n - 1) / 2) q m 0 q = 0 := if_pos rfl
      omega
    | succ d ih =>
      intro hd
      obtain ⟨w, h1, h2, h3⟩ := ih (by omega)
      have h4 := fin d w h1 h3
      rw [show m - d = m - 1 - d + 1 by omega] at h2
      rw [show m - (d + 1) = m - 1 - d by omega]
      rcases zx_bes _ h2 with h5 | ⟨k, h5, h6, h7⟩
      · refine ⟨w, h1, h5, ?_⟩
        have := zv_rn_le (zv_D (fun x => wd (t + x)) (n * (n - 1) / 2) q m d) (zv_D (fun x => wd (t + x)) (n * (n - 1) / 2) q m d) 1 (wd (t + (m - 1 - d))) w (n * (n - 1) / 2)
        exact Nat.lt_of_le_of_lt this h3
      · have h8 := zw_tri_gre hn h5
        have h9 := zk_les_gre h8.1
        have hx := zx_pair (O := zv_D (fun x => wd (t + x)) (n * (n - 1) / 2) q m d) (B := zv_D (fun x => wd (t + x)) (n * (n - 1) / 2) q m d) (hand := 1) (w := wd (t + (m - 1 - d))) h8.1 (by omega) _ h5
        rcases h7 with ⟨e, hb⟩ | ⟨e, hb⟩
        · refine ⟨zk_gre k, h8.2, hb, ?_⟩
          subst e
          exact Nat.lt_of_le_of_lt hx.2 (by omega)
        · refine ⟨zk_les k, by omega, hb, ?_⟩
          subst e
          exact Nat.lt_of_le_of_lt hx.1 (by omega)
  obtain ⟨w, h1, h2, h3⟩ := key m (Nat.le_refl m)
  rw [Nat.sub_self] at h2
  have h4 : (2 ^ p).testBit w = true := h2
  rw [Nat.testBit_two_pow] at h4
  have e := of_decide_eq_true h4
  subst e
  exact fin m p hp h3
theorem zu_fewat {wd : Nat → Nat} {K p q t m : Nat} (h : zv_few wd K p q t = nI m) (hm : m ≤ 600) : zv_at wd K p q t m = true := by
  rcases zc_fst_c (s := zv_at wd K p q t) 600 1 with h1 | ⟨m', h1, h2, h3, h4, -⟩
  · exfalso
    have h2 : (-2 : Int32) = nI m := h1.symm.trans h
    have h3 := congrArg Int32.toInt h2
    rw [nI_toInt (by omega)] at h3
    have h4 : (-2 : Int32).toInt = -2 := by decide
    omega
  · have : m' = m := (nI_eq (by omega) (by omega)).mp (h1.symm.trans h)
    rw [← this]; exact h4
theorem zb_ge {x : Int32} (h : ¬ x < 10) : ∃ v : Nat, v < 2 ^ 31 ∧ x = nI v ∧ 10 ≤ v := by
  rw [zb_lt] at h
  have h1 : (10 : Int32).toInt = 10 := by decide
  obtain ⟨v, hv, e, h2⟩ := zb_of (x := x) (by omega)
  exact ⟨v, hv, e, by omega⟩
theorem zb_21 {v : Nat} (hv : v < 2 ^ 31) (h : ¬ (21 : Int32) < nI v) : v ≤ 21 := by
  rw [zb_lt, nI_toInt hv] at h
  have h1 : (21 : Int32).toInt = 21 := by decide
  omega

/-! What the questions ask: counted, the first, the longest run. -/
theorem zw_ext {s s' : Nat → Bool} : ∀ {K : Nat}, (∀ k, k < K → s k = s' k) → zw s K = zw s' K
  | 0, _ => rfl
  | K + 1, h => by simp only [zw]; rw [zw_ext (K := K) (fun k hk => h k (by omega)), h K (Nat.lt_succ_self K)]
theorem zw_all_ext {s s' : Nat → Bool} : ∀ {K : Nat}, (∀ k, k < K → s k = s' k) → zw_all s K = zw_all s' K
  | 0, _ => rfl
  | K + 1, h => by simp only [zw_all]; rw [zw_all_ext (K := K) (fun k hk => h k (by omega)), h K (Nat.lt_succ_self K)]
theorem zs_sFT {tl : Bool} {ev : (Nat → Int32) → Int32} {P S R : Nat → Nat} {hide n t : Nat} {F : Nat → Nat} (hn : n ≤ 7) (hF : ∀ i, i < n → F i = zs_ph P S i t) : ∀ k, k < n * (n - 1) / 2 → zs_sF tl ev P R hide F k = zs_sT tl ev P S R hide t k := by
  intro k hk
  have h1 := zw_tri_gre hn hk
  have h2 := zk_les_gre h1.1
  simp only [zs_sF, zs_sT]
  rw [hF _ h1.2, hF _ (by omega)]
/-- the word of sights at a step; whether all see each other then -/
def zu_wd (tl : Bool) (ev : (Nat → Int32) → Int32) (P S R : Nat → Nat) (hide n t : Nat) : Nat := zw (zs_sT tl ev P S R hide t) (n * (n - 1) / 2)
def zu_al (tl : Bool) (ev : (Nat → Int32) → Int32) (P S R : Nat → Nat) (hide n t : Nat) : Bool := zw_all (zs_sT tl ev P S R hide t) (n * (n - 1) / 2)
theorem zu_wdF {tl : Bool} {ev : (Nat → Int32) → Int32} {P S R : Nat → Nat} {hide n t : Nat} {F : Nat → Nat} (hn : n ≤ 7) (hF : ∀ i, i < n → F i = zs_ph P S i t) : zw (zs_sF tl ev P R hide F) (n * (n - 1) / 2) = zu_wd tl ev P S R hide n t := zw_ext (zs_sFT hn hF)
theorem zu_alF {tl : Bool} {ev : (Nat → Int32) → Int32} {P S R : Nat → Nat} {hide n t : Nat} {F : Nat → Nat} (hn : n ≤ 7) (hF : ∀ i, i < n → F i = zs_ph P S i t) : zw_all (zs_sF tl ev P R hide F) (n * (n - 1) / 2) = zu_al tl ev P S R hide n t := zw_all_ext (zs_sFT hn hF)
theorem zu_wd_lt {tl : Bool} {ev : (Nat → Int32) → Int32} {P S R : Nat → Nat} {hide n t : Nat} (hn : n ≤ 7) : zu_wd tl ev P S R hide n t < 2 ^ 21 := zw_lt31 _ (zw_le21 hn)
/-- the first step at which it is so, looked for f steps long -/
def zc_fst (s : Nat → Bool) : Nat → Nat → Int32 | 0, _ => -2 | f + 1, t => if s t = true then nI t else zc_fst s f (t + 1)
theorem zc_fst_y {s : Nat → Bool} {f t : Nat} (h : s t = true) : zc_fst s (f + 1) t = nI t := if_pos h
theorem zc_fst_n {s : Nat → Bool} {f t : Nat} (h : s t = false) : zc_fst s (f + 1) t = zc_fst s f (t + 1) := if_neg (by rw [h]; decide)
/-- how long it has not been so; the longest -/
def zc_run (s : Nat → Bool) : Nat → Nat | 0 => 0 | k + 1 => if s k = true then 0 else zc_run s k + 1
def zc_max (s : Nat → Bool) : Nat → Nat | 0 => 0 | k + 1 => max (zc_max s k) (zc_run s (k + 1))
theorem zc_run_le (s : Nat → Bool) : ∀ k, zc_run s k ≤ k
  | 0 => Nat.le_refl 0
  | k + 1 => by have := zc_run_le s k; simp only [zc_run]; split <;> omega
theorem zc_max_le (s : Nat → Bool) : ∀ k, zc_max s k ≤ k
  | 0 => Nat.le_refl 0
  | k + 1 => by have h1 := zc_max_le s k; have h2 := zc_run_le s (k + 1); simp only [zc_max]; omega
theorem zc_run_y {s : Nat → Bool} {k : Nat} (h : s k = true) : 0 = zc_run s (k + 1) := (if_pos h).symm
theorem zc_run_n {s : Nat → Bool} {k : Nat} (h : s k = false) : zc_run s k + 1 = zc_run s (k + 1) := (if_neg (by rw [h]; decide)).symm
def zu_p (x : Int32) : Nat := x.toInt.toNat / 10
def zu_q (x : Int32) : Nat := x.toInt.toNat % 10
def zu_01 (x : Int32) : Bool := decide (¬ x < 0) && decide (x ≤ 1)
def zu_sees (n : Nat) (s : Nat → Nat → Nat → Bool) (pq t : Int32) : Int32 := if (zb_pair n pq && zb_s t) = true then zk_b (s (zu_p pq) (zu_q pq) t.toInt.toNat) else (-1)
def zu_sights (n : Nat) (P : Nat → Nat) (s : Nat → Nat → Nat → Bool) (pq part : Int32) : Int32 :=
  if (zb_pair n pq && zu_01 part) = true then nI (zt_low (zs_cnt (s (zu_p pq) (zu_q pq)) (zs_lcm (P (zu_p pq)) (P (zu_q pq)))) (zs_lcm (P (zu_p pq)) (P (zu_q pq))) part) else (-1)
def zu_blind (n : Nat) (P : Nat → Nat) (s : Nat → Nat → Nat → Bool) (pq : Int32) : Int32 :=
  if zb_pair n pq = true then (if zc_max (s (zu_p pq) (zu_q pq)) (2 * zs_lcm (P (zu_p pq)) (P (zu_q pq))) < zs_lcm (P (zu_p pq)) (P (zu_q pq)) then nI (zc_max (s (zu_p pq) (zu_q pq)) (2 * zs_lcm (P (zu_p pq)) (P (zu_q pq)))) else (-2)) else (-1)
def zu_next (n : Nat) (P : Nat → Nat) (s : Nat → Nat → Nat → Bool) (sa : Nat → Bool) (pq t : Int32) : Int32 :=
  if ((decide (pq = (-1)) || zb_pair n pq) && zb_s t) = true then (if pq = (-1) then zc_fst sa (zs_rnd P n) t.toInt.toNat else zc_fst (s (zu_p pq) (zu_q pq)) (zs_lcm (P (zu_p pq)) (P (zu_q pq))) t.toInt.toNat) else (-1)
def zu_joined (n : Nat) (wd : Nat → Nat) (w t : Int32) : Int32 := if (zb_w n w && zb_s t) = true then nI (zw_rch (wd t.toInt.toNat) (n * (n - 1) / 2) 7 (2 ^ w.toInt.toNat)) else (-1)
def zu_apart (n : Nat) (wd : Nat → Nat) (p q t i : Nat) : Bool := decide (zw_rch (wd (t + i)) (n * (n - 1) / 2) 7 (2 ^ p) &&& 2 ^ q = 0)
def zu_lasts (n : Nat) (P : Nat → Nat) (wd : Nat → Nat) (pq t : Int32) : Int32 := if (zb_pair n pq && zb_s t) = true then zc_fst (zu_apart n wd (zu_p pq) (zu_q pq) t.toInt.toNat) (zs_rnd P n) 0 else (-1)
def zu_un (s : Nat → Nat → Nat → Bool) (p q w t : Nat) : Bool := s p q t && !s p w t && !s q w t
def zu_unheard (n : Nat) (P : Nat → Nat) (s : Nat → Nat → Nat → Bool) (pq w t : Int32) : Int32 :=
  if (zb_pair n pq && zb_w n w && zb_s t) = true then (if w.toInt.toNat = zu_p pq ∨ w.toInt.toNat = zu_q pq then (-1) else zc_fst (zu_un s (zu_p pq) (zu_q pq) w.toInt.toNat) (zs_rnd P n) t.toInt.toNat) else (-1)
def zu_beam (n : Nat) (P S : Nat → Nat) (s : Nat → Nat → Nat → Bool) (pq t : Int32) : Int32 :=
  if (zb_pair n pq && zb_s t) = true then (if s (zu_p pq) (zu_q pq) t.toInt.toNat = true then nI (zs_btw P S n (zu_p pq) (zu_q pq) t.toInt.toNat) else (-2)) else (-1)
theorem zu_pn {j : Nat} (hj : j < 2 ^ 31) : zu_p (nI j) = j / 10 := by rw [zu_p, zb_nat hj]
theorem zu_qn {j : Nat} (hj : j < 2 ^ 31) : zu_q (nI j) = j % 10 := by rw [zu_q, zb_nat hj]
theorem zu_low1 {x y : Nat} (hy : 1 ≤ y) (h2 : y < 2 ^ 63) (h : ¬ 0 ≤ lg_cmp (lN (Nat.gcd x y)) (lN 1)) : False := by
  apply h
  rw [lg_cmp_ge]
  have h1 : 1 ≤ Nat.gcd x y := Nat.gcd_pos_of_pos_right x hy
  exact (pk_lLE (by decide) (Nat.lt_of_le_of_lt (Nat.gcd_le_right x hy) h2)).mpr h1

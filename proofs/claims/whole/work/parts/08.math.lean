/-! Plain facts that the walks need: what is worked out, in naturals. -/
def zs_fill {α : Type} (f g : Nat → α) (i : Nat) : Nat → α := fun k => if k < i then f k else g k
theorem zs_fill_0 {α : Type} (f g : Nat → α) : zs_fill f g 0 = g := funext fun k => by simp [zs_fill]
theorem zs_fill_s (f g : Nat → Int32) (i : Nat) : upd (zs_fill f g i) i (f i) = zs_fill f g (i + 1) := funext fun k => by
  simp only [upd, zs_fill]
  by_cases h : k = i
  · subst h; simp
  · by_cases h2 : k < i
    · rw [if_neg h, if_pos h2, if_pos (by omega)]
    · rw [if_neg h, if_neg h2, if_neg (by omega)]
def zs_up (f : Nat → Nat) (k v : Nat) : Nat → Nat := fun j => if j = k then v else f j
theorem zs_up_n (f : Nat → Nat) (k v : Nat) : upd (fun i => nI (f i)) k (nI v) = fun i => nI (zs_up f k v i) := funext fun j => by
  simp only [upd, zs_up]; split <;> rfl
/-- a world's phase, its place, how far two places are apart -/
def zs_ph (P S : Nat → Nat) (w t : Nat) : Nat := (t + S w) % P w
def zs_pl (P : Nat → Nat) (w ph : Nat) : Nat := ph * 360 / P w
def zs_at (P S : Nat → Nat) (w t : Nat) : Nat := zs_pl P w (zs_ph P S w t)
def zs_far (a b : Nat) : Nat := if a < b then b - a else a - b
def zs_ap (a b : Nat) : Nat := min (zs_far a b) (360 - zs_far a b)
def zs_nm (ap r q h a b : Nat) : Nat → Nat := fun k => [ap, r, q, h, a, b].getD k 0
/-- whether two see each other, the lesser and the greater one in these phases -/
def zs_see (tl : Bool) (ev : (Nat → Int32) → Int32) (P R : Nat → Nat) (hide i j pa pb : Nat) : Bool :=
  if tl then decide (¬ ev (fun k => nI (zs_nm (zs_ap (zs_pl P i pa) (zs_pl P j pb)) (R i) (R j) hide (zs_pl P i pa) (zs_pl P j pb) k)) = 0) else decide (zs_ap (zs_pl P i pa) (zs_pl P j pb) + hide ≤ 180)
def zs_lcm (a b : Nat) : Nat := a / Nat.gcd a b * b
def zs_rnd (P : Nat → Nat) : Nat → Nat | 0 => 1 | n + 1 => zs_lcm (zs_rnd P n) (P n)
theorem zs_ph_lt {P S : Nat → Nat} {w t : Nat} (h : 1 ≤ P w) : zs_ph P S w t < P w := Nat.mod_lt _ h
theorem zs_pl_lt {P : Nat → Nat} {w ph : Nat} (h : ph < P w) : zs_pl P w ph < 360 := by
  refine Nat.div_lt_of_lt_mul ?_
  have : ph * 360 < P w * 360 := Nat.mul_lt_mul_of_pos_right h (by decide)
  exact this
theorem zs_lcm_le {a b : Nat} : zs_lcm a b ≤ a * b := Nat.mul_le_mul_right b (Nat.div_le_self a _)
theorem zs_lcm_pos {a b : Nat} (ha : 1 ≤ a) (hb : 1 ≤ b) : 1 ≤ zs_lcm a b := by
  have h1 : 1 ≤ a / Nat.gcd a b := Nat.div_pos (Nat.gcd_le_left b ha) (Nat.gcd_pos_of_pos_left b ha)
  exact Nat.mul_pos h1 hb
theorem zs_lcm_eq (a b : Nat) : zs_lcm a b = Nat.lcm a b := by
  rw [zs_lcm, Nat.lcm, Nat.mul_comm, ← Nat.mul_div_assoc _ (Nat.gcd_dvd_left a b), Nat.mul_comm]
/-- Euclid's steps: what remains gets smaller by half -/
theorem zs_euc {a b a0 b0 i : Nat} (hab : b < a) (hb : 0 < b) (h : a * b * 2 ^ i ≤ a0 * b0 * 2) : b * (a % b) * 2 ^ (i + 1) ≤ a0 * b0 * 2 ∧ a % b < b := by
  have hlt : a % b < b := Nat.mod_lt _ hb
  refine ⟨Nat.le_trans ?_ h, hlt⟩
  have h1 : 2 * (a % b) ≤ a := by
    have e := Nat.div_add_mod a b
    have q1 : 1 ≤ a / b := Nat.div_pos (Nat.le_of_lt hab) hb
    have : b * 1 ≤ b * (a / b) := Nat.mul_le_mul_left b q1
    omega
  have h2 : b * (a % b) * 2 ^ (i + 1) = (2 * (a % b)) * b * 2 ^ i := by
    rw [Nat.pow_succ, Nat.mul_comm b, Nat.mul_comm 2]
    rw [Nat.mul_assoc (a % b) 2 b, Nat.mul_comm 2 b, ← Nat.mul_assoc (a % b) b 2, Nat.mul_assoc _ 2 (2 ^ i), Nat.mul_comm (2 ^ i) 2]
  rw [h2]
  exact Nat.mul_le_mul_right _ (Nat.mul_le_mul_right b h1)
/-- the table of sights with a pair's rows wiped, a world's rows wiped -/
def zs_cl1 (T : Nat → Int32) (k j : Nat) : Nat → Int32 := fun i => if k * 144 ≤ i ∧ i < j then 0 else T i
def zs_clw (T : Nat → Int32) (w K : Nat) : Nat → Int32 := fun i => if i / 144 < K ∧ (zk_les (i / 144) = w ∨ zk_gre (i / 144) = w) then 0 else T i
theorem zs_cl1_0 (T : Nat → Int32) (k : Nat) : zs_cl1 T k (k * 144) = T := funext fun i => by
  simp only [zs_cl1]; rw [if_neg (by omega)]
theorem zs_cl1_s {T : Nat → Int32} {k j : Nat} (h : k * 144 ≤ j) : upd (zs_cl1 T k j) j (vp_nar .byte (nI 0)) = zs_cl1 T k (j + 1) := funext fun i => by
  have e : vp_nar .byte (nI 0) = 0 := by decide
  simp only [upd, zs_cl1, e]
  by_cases h1 : i = j
  · subst h1; rw [if_pos rfl, if_pos (by omega)]
  · rw [if_neg h1]
    by_cases h2 : k * 144 ≤ i ∧ i < j
    · rw [if_pos h2, if_pos (by omega)]
    · rw [if_neg h2, if_neg (by omega)]
theorem zs_clw_0 (T : Nat → Int32) (w : Nat) : zs_clw T w 0 = T := funext fun i => by simp [zs_clw]
theorem zs_clw_y {T : Nat → Int32} {w K : Nat} (h : zk_les K = w ∨ zk_gre K = w) : zs_cl1 (zs_clw T w K) K ((K + 1) * 144) = zs_clw T w (K + 1) := funext fun i => by
  simp only [zs_cl1, zs_clw]
  by_cases h1 : K * 144 ≤ i ∧ i < (K + 1) * 144
  · have e : i / 144 = K := by omega
    rw [if_pos h1, e, if_pos ⟨Nat.lt_succ_self K, h⟩]
  · rw [if_neg h1]
    have e : i / 144 < K + 1 ↔ i / 144 < K := by omega
    simp only [e]
theorem zs_clw_n {T : Nat → Int32} {w K : Nat} (h : ¬ (zk_les K = w ∨ zk_gre K = w)) : zs_clw T w K = zs_clw T w (K + 1) := funext fun i => by
  simp only [zs_clw]
  by_cases h1 : i / 144 = K
  · rw [h1, if_neg (fun q => absurd q.1 (Nat.lt_irrefl K)), if_neg (fun q => h q.2)]
  · have e : i / 144 < K + 1 ↔ i / 144 < K := by omega
    simp only [e]
theorem zk_les_lt (k : Nat) : zk_les k < 6 := by
  rcases Nat.lt_or_ge k 21 with h | h
  · revert k; decide
  · unfold zk_les
    rw [List.getD_eq_getElem?_getD, List.getElem?_eq_none (by simpa using h)]; decide
theorem zk_gre_lt (k : Nat) : zk_gre k < 7 := by
  rcases Nat.lt_or_ge k 21 with h | h
  · revert k; decide
  · unfold zk_gre
    rw [List.getD_eq_getElem?_getD, List.getElem?_eq_none (by simpa using h)]; decide
theorem zk_les_gre {k : Nat} (h : k < 21) : zk_les k < zk_gre k := by revert k; decide
theorem zk_pr {i j : Nat} (h : i < j) (hj : j < 7) : j * (j - 1) / 2 + i < 21 ∧ zk_les (j * (j - 1) / 2 + i) = i ∧ zk_gre (j * (j - 1) / 2 + i) = j := by
  have key : ∀ j, j < 7 → ∀ i, i < j → j * (j - 1) / 2 + i < 21 ∧ zk_les (j * (j - 1) / 2 + i) = i ∧ zk_gre (j * (j - 1) / 2 + i) = j := by decide
  exact key j hj i h
theorem zk_pr2 {k : Nat} (h : k < 21) : zk_gre k * (zk_gre k - 1) / 2 + zk_les k = k := by revert k; decide
theorem zs_lc0 {y : Nat} (hy : y < 2 ^ 63) (h : lg_cmp (lN y) (lN 0) = 0) : y = 0 := (pk_lEQ hy (by decide)).mp ((lg_cmp_eq _ _).mp h)
theorem zs_lc1 {y : Nat} (h : y = 0) : lg_cmp (lN y) (lN 0) = 0 := by subst h; decide
abbrev zs_EI (a0 b0 x y i : Nat) : Prop := i = 0 ∧ x = a0 ∧ y = b0 ∨ 1 ≤ i ∧ y < x ∧ x * y * 2 ^ (i - 1) ≤ a0 * b0 * 2 ∨ y = 0
theorem zs_eucs {a0 b0 x y i : Nat} (hi : zs_EI a0 b0 x y i) (hy : y ≠ 0) : zs_EI a0 b0 y (x % y) (i + 1) := by
  rcases hi with ⟨h1, h2, h3⟩ | ⟨h1, h2, h3⟩ | h
  · subst h1 h2 h3
    refine Or.inr (Or.inl ⟨Nat.le_add_left _ _, Nat.mod_lt _ (Nat.pos_of_ne_zero hy), ?_⟩)
    rw [Nat.zero_add, Nat.sub_self, Nat.pow_zero, Nat.mul_one]
    refine Nat.le_trans (Nat.mul_le_mul_left y (Nat.mod_le x y)) ?_
    rw [Nat.mul_comm y x]
    omega
  · obtain ⟨k, rfl⟩ : ∃ k, i = k + 1 := ⟨i - 1, by omega⟩
    have q := zs_euc (i := k) h2 (Nat.pos_of_ne_zero hy) h3
    exact Or.inr (Or.inl ⟨Nat.le_add_left _ _, q.2, q.1⟩)
  · exact absurd h hy
theorem zs_euce {a0 b0 x y i : Nat} (h1 : a0 * b0 < 2 ^ 90) (hi : zs_EI a0 b0 x y i) (h : 100 ≤ i) : y = 0 := by
  rcases hi with ⟨h2, -, -⟩ | ⟨h2, h3, h4⟩ | h2
  · omega
  · rcases Nat.eq_zero_or_pos y with h5 | h5
    · exact h5
    · exfalso
      have e1 : 1 ≤ x * y := Nat.mul_pos (by omega) h5
      have e2 : 2 ^ 99 ≤ 2 ^ (i - 1) := Nat.pow_le_pow_right (by decide) (by omega)
      have e3 : 1 * 2 ^ 99 ≤ x * y * 2 ^ (i - 1) := Nat.mul_le_mul e1 e2
      have e4 : (2 : Nat) ^ 99 = 2 ^ 90 * 512 := by decide
      omega
  · exact h2
theorem zs_gcd_s {a0 b0 x y : Nat} (hg : Nat.gcd x y = Nat.gcd a0 b0) : Nat.gcd y (x % y) = Nat.gcd a0 b0 :=
  (Nat.gcd_comm y (x % y)).trans ((Nat.gcd_rec y x).symm.trans ((Nat.gcd_comm y x).trans hg))
theorem zs_gcd_e {a0 b0 x y : Nat} (hg : Nat.gcd x y = Nat.gcd a0 b0) (h : y = 0) : lN x = lN (Nat.gcd a0 b0) := by
  subst h; rw [← hg, Nat.gcd_zero_right]
/-- a world as it may be told -/
def zs_isW (x y z : Int32) : Bool := decide (¬ x < 1) && decide (¬ 12 < x) && decide (¬ y < 0) && decide (¬ x ≤ y) && decide (¬ z < 1) && decide (¬ 9 < z)
/-- the worlds as they stand: how many, their periods and starts within what the document allows -/
def zs_W (n : Nat) (P S : Nat → Nat) : Prop := n ≤ 7 ∧ ∀ i, i < n → 1 ≤ P i ∧ P i ≤ 12 ∧ S i < 12
theorem zs_fill_n (f h : Nat → Nat) (i : Nat) : upd (fun k => nI (zs_fill f h i k)) i (nI (f i)) = fun k => nI (zs_fill f h (i + 1) k) := funext fun k => by
  simp only [upd, zs_fill]
  by_cases h1 : k = i
  · subst h1; rw [if_pos rfl, if_pos (Nat.lt_succ_self _)]
  · by_cases h2 : k < i
    · rw [if_neg h1, if_pos h2, if_pos (by omega)]
    · rw [if_neg h1, if_neg h2, if_neg (by omega)]
def zs_fw (P F : Nat → Nat) (i : Nat) : Nat := if F i + 1 < P i then F i + 1 else 0
def zs_bw (P F : Nat → Nat) (i : Nat) : Nat := if 0 < F i then F i - 1 else P i - 1
theorem zs_step {x p : Nat} (h : x < p) : (if x + 1 < p then x + 1 else 0) = (x + 1) % p := by
  by_cases h1 : x + 1 < p
  · rw [if_pos h1, Nat.mod_eq_of_lt h1]
  · rw [if_neg h1, show x + 1 = p by omega, Nat.mod_self]
theorem zs_ph_e (P S : Nat → Nat) (i t : Nat) : zs_ph P S i (t + 1) = (zs_ph P S i t + 1) % P i := by
  unfold zs_ph
  rw [Nat.mod_add_mod, show t + 1 + S i = t + S i + 1 by omega]
theorem zs_fw_at {P S F : Nat → Nat} {i t : Nat} (h : 1 ≤ P i) (hF : F i = zs_ph P S i t) : zs_fw P F i = zs_ph P S i (t + 1) := by
  unfold zs_fw
  rw [hF, zs_ph_e, zs_step (zs_ph_lt h)]
theorem zs_bw_at {P S F : Nat → Nat} {i t : Nat} (h : 1 ≤ P i) (hF : F i = zs_ph P S i (t + 1)) : zs_bw P F i = zs_ph P S i t := by
  unfold zs_bw
  have hlt : zs_ph P S i t < P i := zs_ph_lt h
  rw [hF, zs_ph_e, ← zs_step hlt]
  generalize zs_ph P S i t = x at hlt
  by_cases h1 : x + 1 < P i
  · rw [if_pos h1, if_pos (Nat.succ_pos _), Nat.add_sub_cancel]
  · rw [if_neg h1, if_neg (Nat.lt_irrefl 0)]; omega
theorem zs_rnd_dvd {P : Nat → Nat} : ∀ {n : Nat}, (∀ i, i < n → 1 ≤ P i ∧ P i ≤ 12) → zs_rnd P n ∣ 27720
  | 0, _ => Nat.one_dvd _
  | n + 1, h => by
    rw [zs_rnd, zs_lcm_eq]
    refine Nat.lcm_dvd (zs_rnd_dvd (fun i hi => h i (by omega))) ?_
    obtain ⟨h1, h2⟩ := h n (Nat.lt_succ_self n)
    generalize P n = x at h1 h2
    have : x = 1 ∨ x = 2 ∨ x = 3 ∨ x = 4 ∨ x = 5 ∨ x = 6 ∨ x = 7 ∨ x = 8 ∨ x = 9 ∨ x = 10 ∨ x = 11 ∨ x = 12 := by omega
    rcases this with rfl | rfl | rfl | rfl | rfl | rfl | rfl | rfl | rfl | rfl | rfl | rfl <;> decide
theorem zs_rnd_in {P : Nat → Nat} {n : Nat} (h : ∀ i, i < n → 1 ≤ P i ∧ P i ≤ 12) : 1 ≤ zs_rnd P n ∧ zs_rnd P n ≤ 27720 :=
  ⟨Nat.pos_of_dvd_of_pos (zs_rnd_dvd h) (by decide), Nat.le_of_dvd (by decide) (zs_rnd_dvd h)⟩
theorem zs_fill_L (f h : Nat → Int64) (i : Nat) : vp_updL (zs_fill f h i) i (f i) = zs_fill f h (i + 1) := funext fun k => by
  simp only [vp_updL, zs_fill]
  by_cases h1 : k = i
  · subst h1; simp
  · by_cases h2 : k < i
    · rw [if_neg h1, if_pos h2, if_pos (by omega)]
    · rw [if_neg h1, if_neg h2, if_neg (by omega)]
theorem zs_cpy_n (f h : Nat → Nat) (n : Nat) : va_cpy (fun i => nI (f i)) (fun i => nI (h i)) 0 0 n = fun i => nI (zs_fill f h n i) := funext fun k => by
  simp only [va_cpy, zs_fill]
  by_cases h1 : k < n
  · rw [if_pos ⟨Nat.zero_le _, by omega⟩, if_pos h1]; simp
  · rw [if_neg (by omega), if_neg h1]
theorem zs_cpy_r (f h : Nat → Int32) (n : Nat) : va_cpy f h 0 0 n = zs_fill f h n := funext fun k => by
  simp only [va_cpy, zs_fill]
  by_cases h1 : k < n
  · rw [if_pos ⟨Nat.zero_le _, by omega⟩, if_pos h1]; simp
  · rw [if_neg (by omega), if_neg h1]
/-- changes: the first one falls out when forty are kept -/
def zc_sh (N : Nat → Nat) : Nat → Nat := fun k => if k < 39 then N (k + 1) else N k
theorem zc_sh_e (N : Nat → Nat) : va_cpy (fun i => nI (N i)) (fun i => nI (N i)) 1 0 39 = fun i => nI (zc_sh N i) := funext fun k => by
  simp only [va_cpy, zc_sh]
  by_cases h : k < 39
  · rw [if_pos ⟨Nat.zero_le _, by omega⟩, if_pos h]; simp [Nat.add_comm]
  · rw [if_neg (by omega), if_neg h]
def zc_d (d : Nat) : Nat := if d < 40 then d else 39
def zc_f (d : Nat) (N : Nat → Nat) : Nat → Nat := if d < 40 then N else zc_sh N
/-- messages: a hand on -/
def zd_h (lost : Bool) (to : Nat) : Int32 := if lost then (-2) else nI to
def zd_a (lost : Bool) (to tg mi nw : Nat) (Av : Nat → Int32) : Nat → Int32 := if lost = false ∧ to = tg then upd Av mi (nI (nw + 1)) else Av
def zd_cnt (Av : Nat → Int32) : Nat → Nat | 0 => 0 | k + 1 => zd_cnt Av k + (if Av k = (-2) then 0 else 1)
theorem zd_cnt_le (Av : Nat → Int32) : ∀ k, zd_cnt Av k ≤ k
  | 0 => Nat.le_refl _
  | k + 1 => by have := zd_cnt_le Av k; simp only [zd_cnt]; split <;> omega
def zd_of (Sn Tg : Nat → Nat) (Hd Av : Nat → Int32) (mi : Nat) (what : Int32) : Int32 := if what = nI 0 then nI (Sn mi) else if what = nI 1 then nI (Tg mi) else if what = nI 2 then Hd mi else if what = nI 3 then Av mi else (-1)
theorem zs_m2 {x : Nat} (h : x < 2 ^ 31) : ¬ (-2 : Int32) = nI x := fun q => by
  have e := congrArg Int32.toInt q
  rw [nI_toInt h] at e
  have : (-2 : Int32).toInt = -2 := by decide
  omega
/-- shelves -/
def zh_non (so re : Int32) : Bool := decide (¬ 0 ≤ so) && decide (¬ 0 ≤ re)
def zh_pl (len : Nat) (x y : Int32) : Bool := decide (¬ x < 0) && decide (¬ y < 0) && decide (¬ nI len < x) && decide (¬ nI len - x < y)
def zh_as (so : Int32) (v : Int64) : Int64 := if so = nI 0 then v.toInt32.toInt8.toInt32.toInt64 else if so = nI 1 then v.toInt32.toInt16.toInt32.toInt64 else if so = nI 2 then v.toInt32.toInt64 else if so = nI 4 then (if v = 0 then lN 0 else lN 1) else v
theorem zs_lcz {v : Int64} (h : lg_cmp v (lN 0) = 0) : v = 0 := (lg_cmp_eq _ _).mp h
theorem zs_lcn {v : Int64} (h : ¬ lg_cmp v (lN 0) = 0) : ¬ v = 0 := fun q => h ((lg_cmp_eq _ _).mpr q)
/-- relays -/
def zr_kind (x : Int32) : Bool := decide (¬ x < 0) && decide (¬ 8 ≤ x)

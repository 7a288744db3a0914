/-! Ways: a hand's worth, numbers that get no greater. -/
theorem zk_perm {D : va_G} {A : Nat → Prop} {ws ws' : va_W} {s : State} {H : Heap} {locs : List Loc} (G : zk_G D A ws s H locs) (is : List Nat) (h : is.map (fun i => ws[i]?) = ws'.map some) (hn : va_nd is = true) : zk_G D A ws' s H locs := by
  refine ⟨G.1.sub is ?_, G.2.1.sub is hn h, G.2.2⟩
  have : is.filterMap (fun i => ws[i]?) = (is.map (fun i => ws[i]?)).filterMap id := by
    rw [List.filterMap_map]; rfl
  rw [this, h, List.filterMap_map]
  exact List.filterMap_some

def zv_two (O : Nat → Nat) (hand x y : Nat) (B : Nat → Nat) : Nat → Nat := zs_up (zs_up B x (min (B x) (O y + hand))) y (min (zs_up B x (min (B x) (O y + hand)) y) (O x + hand))
def zv_rn (O : Nat → Nat) (hand w : Nat) (B : Nat → Nat) : Nat → Nat → Nat
  | 0 => B
  | k + 1 => if w / 2 ^ k % 2 = 0 then zv_rn O hand w B k else zv_two O hand (zk_les k) (zk_gre k) (zv_rn O hand w B k)
theorem zv_rn_n {O B : Nat → Nat} {hand w k : Nat} (h : w / 2 ^ k % 2 = 0) : zv_rn O hand w B (k + 1) = zv_rn O hand w B k := if_pos h
theorem zv_rn_y {O B : Nat → Nat} {hand w k : Nat} (h : w / 2 ^ k % 2 ≠ 0) : zv_rn O hand w B (k + 1) = zv_two O hand (zk_les k) (zk_gre k) (zv_rn O hand w B k) := if_neg h
theorem zv_two_le (O : Nat → Nat) (hand x y : Nat) (B : Nat → Nat) (i : Nat) : zv_two O hand x y B i ≤ B i := by
  simp only [zv_two, zs_up]
  split
  · subst_vars; split <;> (subst_vars; omega)
  · split <;> (subst_vars; omega)
theorem zv_two_ge (O : Nat → Nat) (hand x y : Nat) (B : Nat → Nat) (i : Nat) : min (B i) hand ≤ zv_two O hand x y B i := by
  simp only [zv_two, zs_up]
  split
  · subst_vars; split <;> (subst_vars; omega)
  · split <;> (subst_vars; omega)
theorem zv_rn_le (O B : Nat → Nat) (hand w i : Nat) : ∀ k, zv_rn O hand w B k i ≤ B i
  | 0 => Nat.le_refl _
  | k + 1 => by
    have ih := zv_rn_le O B hand w i k
    simp only [zv_rn]; split
    · exact ih
    · exact Nat.le_trans (zv_two_le _ _ _ _ _ _) ih
theorem zv_rn_ge (O B : Nat → Nat) (hand w i : Nat) : ∀ k, min (B i) hand ≤ zv_rn O hand w B k i
  | 0 => Nat.min_le_left _ _
  | k + 1 => by
    have ih := zv_rn_ge O B hand w i k
    simp only [zv_rn]; split
    · exact ih
    · have := zv_two_ge O hand (zk_les k) (zk_gre k) (zv_rn O hand w B k) i
      omega
theorem zv_rn_cg {O O' B B' : Nat → Nat} {hand w : Nat} (hO : ∀ i, i < 7 → O i = O' i) (hB : ∀ i, i < 7 → B i = B' i) : ∀ k i, i < 7 → zv_rn O hand w B k i = zv_rn O' hand w B' k i
  | 0, i, hi => hB i hi
  | k + 1, i, hi => by
    have ih := zv_rn_cg (hand := hand) (w := w) hO hB k
    simp only [zv_rn]; split
    · exact ih i hi
    · have e1 := hO (zk_les k) (by have := zk_les_lt k; omega)
      have e2 := hO (zk_gre k) (zk_gre_lt k)
      have e3 := ih (zk_les k) (by have := zk_les_lt k; omega)
      have e4 := ih (zk_gre k) (zk_gre_lt k)
      have e5 := ih i hi
      simp only [zv_two, zs_up, e1, e2, e3, e4, e5]
/-- the fewest hands, step by step -/
def zv_O (wd : Nat → Nat) (K p t : Nat) : Nat → Nat → Nat
  | 0 => fun w => if w = p then 0 else 1000000000
  | i + 1 => zv_rn (zv_O wd K p t i) 1 (wd (t + i)) (zv_O wd K p t i) K
theorem zv_O_le (wd : Nat → Nat) (K p t w : Nat) : ∀ i, zv_O wd K p t i w ≤ 1000000000
  | 0 => by simp only [zv_O]; split <;> decide
  | i + 1 => Nat.le_trans (zv_rn_le _ _ _ _ _ _) (zv_O_le wd K p t w i)
theorem zv_O_stay {wd : Nat → Nat} {K p t q i : Nat} (h : zv_O wd K p t i q ≤ 1) : ∀ d, zv_O wd K p t (i + d) q = zv_O wd K p t i q
  | 0 => rfl
  | d + 1 => by
    have ih := zv_O_stay h d
    have h1 := zv_rn_le (zv_O wd K p t (i + d)) (zv_O wd K p t (i + d)) 1 (wd (t + (i + d))) q K
    have h2 := zv_rn_ge (zv_O wd K p t (i + d)) (zv_O wd K p t (i + d)) 1 (wd (t + (i + d))) q K
    show zv_rn (zv_O wd K p t (i + d)) 1 (wd (t + (i + d))) (zv_O wd K p t (i + d)) K q = _
    omega
def zv_hands (wd : Nat → Nat) (K p q t : Nat) : Int32 := if zv_O wd K p t 600 q < 1000000000 then nI (zv_O wd K p t 600 q) else (-2)
/-- who has it, step by step -/
def zv_hv (wd : Nat → Nat) (K p t : Nat) : Nat → Nat
  | 0 => 2 ^ p
  | i + 1 => zw_bes (zv_hv wd K p t i) (wd (t + i)) K
theorem zv_hv_lt {wd : Nat → Nat} {K p t : Nat} (h : p < 7) : ∀ i, zv_hv wd K p t i < 2 ^ 7
  | 0 => zw_p2 h
  | i + 1 => zw_bes_lt (zv_hv_lt h i) K
def zv_at (wd : Nat → Nat) (K p q t i : Nat) : Bool := decide (zv_hv wd K p t i &&& 2 ^ q ≠ 0)
def zv_few (wd : Nat → Nat) (K p q t : Nat) : Int32 := zc_fst (zv_at wd K p q t) 600 1
/-- hands that are still needed, from the last step down -/
def zv_D (W : Nat → Nat) (K q steps : Nat) : Nat → Nat → Nat
  | 0 => fun w => if w = q then 0 else 1000000000
  | d + 1 => zv_rn (zv_D W K q steps d) 1 (W (steps - 1 - d)) (zv_D W K q steps d) K
theorem zv_D_le (W : Nat → Nat) (K q steps w : Nat) : ∀ d, zv_D W K q steps d w ≤ 1000000000
  | 0 => by simp only [zv_D]; split <;> decide
  | d + 1 => Nat.le_trans (zv_rn_le _ _ _ _ _ _) (zv_D_le W K q steps w d)
theorem zv_m1 (t : Nat) : nI (t + 1) - nI 1 = nI t := pk_sub (Nat.le_add_left 1 t)
theorem zv_m2 (t : Nat) : nI t + Int32.ofInt (-1) = nI t - nI 1 := by
  rw [Int32.sub_eq_add_neg]; congr 1
theorem zv_m0 {s : Nat} (hs : s < 2 ^ 30) (h : nI s - nI 1 < 0) : s = 0 := by
  rw [Int32.lt_iff_toInt_lt, pk_sub_toInt hs (by decide)] at h
  have : (0 : Int32).toInt = 0 := by decide
  omega
theorem zv_mp {s : Nat} (hs : s < 2 ^ 30) (h : ¬ nI s - nI 1 < 0) : 1 ≤ s := by
  rw [Int32.lt_iff_toInt_lt, pk_sub_toInt hs (by decide)] at h
  have : (0 : Int32).toInt = 0 := by decide
  omega
def zv_f1 (s : Nat → Bool) (d : Nat) : Nat → Nat → Nat | 0, _ => d | f + 1, w => if s w = true then w else zv_f1 s d f (w + 1)
theorem zv_f1_y {s : Nat → Bool} {d f t : Nat} (h : s t = true) : zv_f1 s d (f + 1) t = t := if_pos h
theorem zv_f1_n {s : Nat → Bool} {d f t : Nat} (h : s t = false) : zv_f1 s d (f + 1) t = zv_f1 s d f (t + 1) := if_neg (by rw [h]; decide)
theorem zv_f1_lt {s : Nat → Bool} {d n : Nat} (h : d < n) : ∀ f t, t + f ≤ n → zv_f1 s d f t < n
  | 0, _, _ => h
  | f + 1, t, q => by
    simp only [zv_f1]; split
    · omega
    · exact zv_f1_lt h f (t + 1) (by omega)
/-- the next one to have it, by the numbers of hands -/
def zv_hs (N W : Nat → Nat) (K has i w : Nat) : Bool := decide (zw_bes (2 ^ has) (W i) K / 2 ^ w % 2 ≠ 0) && decide (N (i * 6 + 6 + w) + (if w = has then 0 else 1) = N (i * 6 + has))
def zv_nh (N W : Nat → Nat) (K n has i : Nat) : Nat := zv_f1 (zv_hs N W K has i) has n 0
def zv_ho (N W : Nat → Nat) (K n p : Nat) : Nat → Nat | 0 => p | i + 1 => zv_nh N W K n (zv_ho N W K n p i) i
theorem zv_nh_lt {N W : Nat → Nat} {K n has i : Nat} (h : has < n) : zv_nh N W K n has i < n := zv_f1_lt h n 0 (by omega)
theorem zv_ho_lt {N W : Nat → Nat} {K n p : Nat} (h : p < n) : ∀ i, zv_ho N W K n p i < n
  | 0 => h
  | i + 1 => zv_nh_lt (zv_ho_lt h i)
theorem zv_fillc (c : Nat) (O : Nat → Nat) (N : Nat) : zs_fill (fun _ => nI c) (fun i => nI (O i)) N = fun i => nI (zs_fill (fun _ => c) O N i) := funext fun k => by
  simp only [zs_fill]; split <;> rfl
def zv_cp (N : Nat → Nat) (sp dp n z : Nat) : Nat := if dp ≤ z ∧ z < dp + n then N (sp + (z - dp)) else N z
theorem zv_cp_e (N : Nat → Nat) (sp dp n : Nat) : va_cpy (fun i => nI (N i)) (fun i => nI (N i)) sp dp n = fun z => nI (zv_cp N sp dp n z) := funext fun z => by
  simp only [va_cpy, zv_cp]; split <;> rfl
theorem zv_rowup {N D B : Nat → Nat} {c o x y n : Nat} (hB : ∀ z, z < n → N (c + z) = B z) (hA : ∀ z, z < n → N (o + z) = D z) (hxy : x ≠ y) (hx : x < n) (hy : y < n) {z : Nat} (hz : z < n) :
    zs_up (zs_up N (c + x) (min (N (c + x)) (N (o + y) + 1))) (c + y) (min (N (c + y)) (N (o + x) + 1)) (c + z) = zv_two D 1 x y B z := by
  have h1 : ¬ y = x := fun q => hxy q.symm
  simp only [zv_two, zs_up, hB x hx, hB y hy, hA x hx, hA y hy, Nat.add_left_cancel_iff, if_neg h1, hB z hz]
def zv_Nf (W : Nat → Nat) (K q steps x : Nat) : Nat := zv_D W K q steps (steps - x / 6) (x % 6)
theorem zv_Nf_e {W : Nat → Nat} {K q steps x y : Nat} (hy : y < 6) : zv_Nf W K q steps (x * 6 + y) = zv_D W K q steps (steps - x) y := by
  simp only [zv_Nf, show (x * 6 + y) / 6 = x by omega, show (x * 6 + y) % 6 = y by omega]
theorem zv_f1_cg {s s' : Nat → Bool} {d n : Nat} (h : ∀ w, w < n → s w = s' w) : ∀ f t, t + f ≤ n → zv_f1 s d f t = zv_f1 s' d f t
  | 0, _, _ => rfl
  | f + 1, t, q => by simp only [zv_f1]; rw [h t (by omega), zv_f1_cg h f (t + 1) (by omega)]
theorem zv_nh_cg {N W : Nat → Nat} {K q steps n has i : Nat} (hn : n ≤ 6) (hh : has < n) (hi : i < steps) (hN : ∀ x, x ≤ steps → ∀ y, y < n → N (x * 6 + y) = zv_D W K q steps (steps - x) y) : zv_nh N W K n has i = zv_nh (zv_Nf W K q steps) W K n has i := by
  refine zv_f1_cg (n := n) (fun w hw => ?_) n 0 (by omega)
  simp only [zv_hs]
  rw [show i * 6 + 6 + w = (i + 1) * 6 + w by omega, hN (i + 1) (by omega) w hw, hN i (by omega) has hh, zv_Nf_e (by omega), zv_Nf_e (by omega)]
theorem zw_all_yes {s : Nat → Bool} : ∀ {K : Nat}, (∀ k, k < K → s k = true) → zw_all s K = true
  | 0, _ => rfl
  | K + 1, h => by simp only [zw_all, zw_all_yes (K := K) (fun k hk => h k (by omega)), h K (Nat.lt_succ_self K)]; rfl
/-- when it gets there, from the last step down -/
def zv_A (wd : Nat → Nat) (K q last : Nat) : Nat → Nat → Nat
  | 0 => fun _ => 1000000000
  | d + 1 => zv_rn (zs_up (zv_A wd K q last d) q (last - d + 1)) 0 (wd (last - d)) (zs_up (zv_A wd K q last d) q (last - d + 1)) K
theorem zv_A_le {wd : Nat → Nat} {K q last : Nat} (hl : last < 100000) (w : Nat) : ∀ d, zv_A wd K q last d w ≤ 1000000000
  | 0 => Nat.le_refl _
  | d + 1 => by
    refine Nat.le_trans (zv_rn_le _ _ _ _ _ _) ?_
    have := zv_A_le (wd := wd) (K := K) (q := q) hl w d
    simp only [zs_up]; split <;> omega
theorem zv_two_lo {O B : Nat → Nat} {x y m : Nat} (hO : ∀ i, m ≤ O i) (hB : ∀ i, m ≤ B i) (i : Nat) : m ≤ zv_two O 0 x y B i := by
  have h1 := hO x; have h2 := hO y; have h3 := hB x; have h4 := hB y; have h5 := hB i
  simp only [zv_two, zs_up]
  split
  · split <;> omega
  · split <;> omega
theorem zv_rn_lo {O B : Nat → Nat} {w m : Nat} (hO : ∀ i, m ≤ O i) (hB : ∀ i, m ≤ B i) : ∀ k i, m ≤ zv_rn O 0 w B k i
  | 0, i => hB i
  | k + 1, i => by
    simp only [zv_rn]; split
    · exact zv_rn_lo hO hB k i
    · exact zv_two_lo hO (fun j => zv_rn_lo hO hB k j) i
theorem zv_A_ge {wd : Nat → Nat} {K q last : Nat} (hl : last < 100000) : ∀ d, d ≤ last + 1 → ∀ w, last + 2 - d ≤ zv_A wd K q last d w
  | 0, _, w => by simp only [zv_A]; omega
  | d + 1, h, w => by
    have ih := zv_A_ge (wd := wd) (K := K) (q := q) hl d (by omega)
    have : ∀ i, last + 2 - (d + 1) ≤ zs_up (zv_A wd K q last d) q (last - d + 1) i := fun i => by
      have := ih i
      simp only [zs_up]; split <;> omega
    exact zv_rn_lo this this K w
def zv_wt (wd : Nat → Nat) (K p q last t : Nat) : Nat := zv_A wd K q last (last + 1 - t) p - t
/-- the longest of them and the first that has it, from the last one down -/
def zv_Lg (wt : Nat → Nat) (R : Nat) : Nat → Nat × Nat
  | 0 => (0, 0)
  | d + 1 => if (zv_Lg wt R d).1 ≤ wt (R - 1 - d) then (wt (R - 1 - d), R - 1 - d) else zv_Lg wt R d
theorem zv_Lg_in {wt : Nat → Nat} {R M : Nat} (h : ∀ t, t < R → wt t ≤ M) : ∀ d, d ≤ R → (zv_Lg wt R d).1 ≤ M ∧ (zv_Lg wt R d).2 ≤ R
  | 0, _ => ⟨Nat.zero_le _, Nat.zero_le _⟩
  | d + 1, q => by
    have ih := zv_Lg_in h d (by omega)
    simp only [zv_Lg]; split
    · exact ⟨h _ (by omega), by omega⟩
    · exact ih
theorem zv_Lg_pos {wt : Nat → Nat} {R : Nat} (h : ∀ t, t < R → 1 ≤ wt t) : ∀ d, 1 ≤ d → d ≤ R → 1 ≤ (zv_Lg wt R d).1
  | 0, q, _ => absurd q (by decide)
  | d + 1, _, q => by
    simp only [zv_Lg]; split
    · exact h _ (by omega)
    · rename_i hc
      have := h (R - 1 - d) (by omega)
      omega
theorem zv_wt_le {wd : Nat → Nat} {K p q last : Nat} (hl : last < 100000) (t : Nat) : zv_wt wd K p q last t ≤ 1000000000 := by
  have := zv_A_le (wd := wd) (K := K) (q := q) hl p (last + 1 - t)
  simp only [zv_wt]; omega
theorem zv_wt_ge {wd : Nat → Nat} {K p q last : Nat} (hl : last < 100000) {t : Nat} (ht : t ≤ last) : 1 ≤ zv_wt wd K p q last t := by
  have := zv_A_ge (wd := wd) (K := K) (q := q) hl (last + 1 - t) (by omega) p
  simp only [zv_wt]; omega
/-- all waits within a limit -/
def zv_ok (wt : Nat → Nat) (R l : Nat) : Bool := zw_all (fun u => decide (wt u ≤ l)) R
theorem zv_ok_y {wt : Nat → Nat} {R l : Nat} (h : ∀ u, u < R → wt u ≤ l) : true = zv_ok wt R l := (zw_all_yes (fun u hu => decide_eq_true (h u hu))).symm
theorem zv_ok_n {wt : Nat → Nat} {R l t : Nat} (ht : t < R) (h : l < wt t) : false = zv_ok wt R l := (zw_all_no (s := fun u => decide (wt u ≤ l)) (decide_eq_false (Nat.not_le.mpr h)) ht).symm

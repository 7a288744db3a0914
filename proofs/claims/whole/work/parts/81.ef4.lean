/-! Messages led in deed, shelves changed, worlds that are the same below n. -/
section EF4
variable {n M : Nat} {Tg : Nat → Nat} {NX : Nat → Nat → Nat → Nat} {storm : Nat}
def ze_vi (n M : Nat) (Tg : Nat → Nat) (st : zd_T) : Prop := zd_ok n M Tg st.1 ∧ (∀ x, x < M → st.2.1 x = -2 ∨ ∃ y : Nat, y < 2 ^ 30 ∧ st.2.1 x = nI y) ∧ ∀ w, n ≤ w → w < 6 → st.2.2.1 w = 0
theorem ze_zda {lost : Bool} {to tg m now x : Nat} {Av : Nat → Int32} (h : Av x = -2 ∨ ∃ y : Nat, y < 2 ^ 30 ∧ Av x = nI y) (hnow : now < 2 ^ 29) : zd_a lost to tg m now Av x = -2 ∨ ∃ y : Nat, y < 2 ^ 30 ∧ zd_a lost to tg m now Av x = nI y := by
  unfold zd_a
  split
  · by_cases e : x = m
    · have e9 : upd Av m (nI (now + 1)) x = nI (now + 1) := if_pos e
      rw [e9]
      exact Or.inr ⟨now + 1, by omega, rfl⟩
    · have e9 : upd Av m (nI (now + 1)) x = Av x := if_neg e
      rw [e9]; exact h
  · exact h
theorem ze_vi_car (hn : n ≤ 6) (hX : ∀ h to t, h < n → NX h to t < n) {now m : Nat} (hnow : now < 2 ^ 29) {st : zd_T} (h : ze_vi n M Tg st) (hm : m < M) : ze_vi n M Tg (zd_car NX Tg storm now m st) := by
  refine ⟨zd_car_ok hn hX h.1 hm, ?_, ?_⟩
  · intro x hx
    have h2 := h.2.1 x hx
    unfold zd_car
    by_cases c1 : st.1 m = -2 ∨ st.1 m = nI (Tg m)
    · rw [if_pos c1]; exact h2
    · rw [if_neg c1]
      by_cases c2 : NX (st.1 m).toInt.toNat (Tg m) now = (st.1 m).toInt.toNat
      · rw [if_pos c2]; exact h2
      · rw [if_neg c2]
        exact ze_zda h2 hnow
  · intro w hw h6
    have h2 := h.2.2 w hw h6
    unfold zd_car
    by_cases c1 : st.1 m = -2 ∨ st.1 m = nI (Tg m)
    · rw [if_pos c1]; exact h2
    · rw [if_neg c1]
      by_cases c2 : NX (st.1 m).toInt.toNat (Tg m) now = (st.1 m).toInt.toNat
      · rw [if_pos c2]; exact h2
      · rw [if_neg c2]
        show zs_up st.2.2.1 _ _ w = 0
        rcases (h.1 m hm).2 with e | ⟨y, hy, e⟩
        · exact absurd (Or.inl e) c1
        · rw [e, zb_nat (by omega)]
          have e9 : ∀ v, zs_up st.2.2.1 y v w = st.2.2.1 w := fun v => if_neg (by omega)
          rw [e9]; exact h2
theorem ze_vi_row (hn : n ≤ 6) (hX : ∀ h to t, h < n → NX h to t < n) {now : Nat} (hnow : now < 2 ^ 29) {st : zd_T} (h : ze_vi n M Tg st) : ∀ m, m ≤ M → ze_vi n M Tg (zd_row NX Tg storm now st m)
  | 0, _ => h
  | m + 1, hm => ze_vi_car hn hX hnow (ze_vi_row hn hX hnow h m (by omega)) (by omega)
theorem ze_vi_go (hn : n ≤ 6) (hX : ∀ h to t, h < n → NX h to t < n) {now : Nat} (hnow : now < 2 ^ 28) {st : zd_T} (h : ze_vi n M Tg st) : ∀ k, k ≤ 99 → ze_vi n M Tg (zd_go NX Tg storm M now st k)
  | 0, _ => h
  | k + 1, hk => ze_vi_row hn hX (by omega) (ze_vi_go hn hX hnow h k (by omega)) M (Nat.le_refl M)
theorem ze_99 (k9 : Int32) : (decide (¬ k9 < 1) && decide (k9 ≤ 99)) = zm_in k9.toInt64 (lN 1) (lN 99) := by
  have t1 : (1 : Int32).toInt = 1 := rfl
  have t9 : (99 : Int32).toInt = 99 := rfl
  rw [zm_in_c k9 1 99 (by decide) (by decide), Bool.eq_iff_iff]
  simp only [Bool.and_eq_true, decide_eq_true_eq, zb_lt, zb_le, t1, t9]
  omega
theorem ze_go {tl : Bool} {ev : (Nat → Int32) → Int32} {hide m1 nw : Nat} {P S Q W Sn Ld HD : Nat → Nat} {Hd Av MS : Nat → Int32} (hD : ze_D n hide storm P S Q W) (hm : ze_Ms n m1 Sn Tg Hd Av MS) (hl : ze_Ld n Ld HD) (hnw : nw < 2 ^ 27) (seed k9 : Int32) :
    ((if (decide (¬ k9 < 1) && decide (k9 ≤ 99)) = true then nI (zd_cnt (zd_go (zd_nx (zw_led tl ev P S Q hide n) (zu_wd tl ev P S Q hide n) (n * (n - 1) / 2) n) Tg storm m1 nw (Hd, Av, Ld, seed) k9.toInt.toNat).2.1 m1) - nI (zd_cnt Av m1) else -1) =
      (if zm_in k9.toInt64 (lN 1) (lN 99) = true then nI (zm_go (zm_nxs (zs_meet tl ev W (zm_S W) (zm_R W) (W 21)) n) (W 22) m1 nw (MS, HD, seed) k9.toInt.toNat).1 else -1)) ∧
    (zm_in k9.toInt64 (lN 1) (lN 99) = true → k9.toInt.toNat ≤ 99 ∧ ze_Ms n m1 Sn Tg (zd_go (zd_nx (zw_led tl ev P S Q hide n) (zu_wd tl ev P S Q hide n) (n * (n - 1) / 2) n) Tg storm m1 nw (Hd, Av, Ld, seed) k9.toInt.toNat).1 (zd_go (zd_nx (zw_led tl ev P S Q hide n) (zu_wd tl ev P S Q hide n) (n * (n - 1) / 2) n) Tg storm m1 nw (Hd, Av, Ld, seed) k9.toInt.toNat).2.1 (zm_go (zm_nxs (zs_meet tl ev W (zm_S W) (zm_R W) (W 21)) n) (W 22) m1 nw (MS, HD, seed) k9.toInt.toNat).2.1 ∧
      ze_Ld n (zd_go (zd_nx (zw_led tl ev P S Q hide n) (zu_wd tl ev P S Q hide n) (n * (n - 1) / 2) n) Tg storm m1 nw (Hd, Av, Ld, seed) k9.toInt.toNat).2.2.1 (zm_go (zm_nxs (zs_meet tl ev W (zm_S W) (zm_R W) (W 21)) n) (W 22) m1 nw (MS, HD, seed) k9.toInt.toNat).2.2.1) := by
  have hn6 := hD.1
  have hst := hD.2.2.1
  have hR := hD.2.1
  have hW := hD.2.2.2.1
  obtain ⟨k1, k2, k3, k4⟩ := hm
  have hNX : ∀ h q t, h < n → q < n → h ≠ q → zd_nx (zw_led tl ev P S Q hide n) (zu_wd tl ev P S Q hide n) (n * (n - 1) / 2) n h q t = zm_nxs (zs_meet tl ev W (zm_S W) (zm_R W) (W 21)) n h q t := fun h q t hh hq hne => by
    rw [zy_nx (zy_okR (by omega) hR) hn6 (fun p q t m hp hat => zy_ledR hW hR hp hat) hh hq hne]
    exact (if_neg hne).symm
  have hX : ∀ h to t, h < n → zd_nx (zw_led tl ev P S Q hide n) (zu_wd tl ev P S Q hide n) (n * (n - 1) / 2) n h to t < n := fun h to t hh => zd_nx_lt hh
  rw [← hst]
  by_cases h9 : zm_in k9.toInt64 (lN 1) (lN 99) = true
  · have hk : k9.toInt.toNat ≤ 99 := by
      obtain ⟨x, hx, rfl, -, h99⟩ := zm_in_ex (by decide) (by decide) h9
      rw [zb_nat hx]; exact h99
    obtain ⟨g1, g2, g3⟩ := zy_go (storm := storm) (Sn := Sn) hn6 k1 hNX hX (now := nw) (by omega) (st := (Hd, Av, Ld, seed)) (g := (MS, HD, seed)) k3 ⟨k2, hl.1, rfl⟩ (fun x hx => (k4 x hx).imp id (fun q => q.1)) k9.toInt.toNat hk
    obtain ⟨v1, v2, v3⟩ := ze_vi_go (storm := storm) hn6 hX (now := nw) (by omega) (st := (Hd, Av, Ld, seed)) ⟨k3, fun x hx => (k4 x hx).imp id (fun q => q.2), hl.2⟩ k9.toInt.toNat hk
    refine ⟨?_, fun _ => ⟨hk, ⟨k1, g1.1, v1, fun x hx => ?_⟩, ⟨g1.2.1, v3⟩⟩⟩
    · rw [ze_99, if_pos h9, if_pos h9, g3, pk_sub (Nat.le_add_right _ _), Nat.add_sub_cancel_left]
    · rcases g2 x hx with e | e
      · exact Or.inl e
      · rcases v2 x hx with e2 | e2
        · exact Or.inl e2
        · exact Or.inr ⟨e, e2⟩
  · exact ⟨by rw [ze_99, if_neg h9, if_neg h9], fun q => absurd q h9⟩
end EF4
section EF5
variable {zr : Nat} {SH : Nat → Int32} {MN : Nat → Nat} {IT : Nat → Int64} {so : Nat → Int32} {ln : Nat → Nat} {re : Nat → Int32} {Its : Nat → Nat → Int64}
theorem ze_un : ∀ x, x < 8 → ∀ y, y < 8 → zr_under 8 (nI x) (nI y) = zm_un 8 x y := by decide +kernel
theorem ze_taken {KD : Nat → Nat} {x k sort rel : Int32} (hKD : ∀ i, KD i < 8) (h : zb_w 6 x = true → ze_K zr (SH x.toInt.toNat) sort rel) : zh_taken zr KD x k sort rel = zm_taken SH KD x k := by
  unfold zh_taken zm_taken
  by_cases hw : (zb_w 6 x && zr_kind k) = true
  · rw [if_pos hw, if_pos hw]
    have h2 := (Bool.and_eq_true _ _).mp hw
    have hK := h h2.1
    rw [ze_K_non hK, ze_K_row hK]
    by_cases h0 : SH x.toInt.toNat < 0
    · rw [decide_eq_true h0, if_pos rfl, if_pos h0]
    · rw [decide_eq_false h0, if_neg (show ¬ false = true by decide), if_neg h0]
      by_cases h5 : SH x.toInt.toNat < 50
      · rw [show decide (¬ SH x.toInt.toNat < 50) = false from decide_eq_false (fun q => q h5), if_neg (show ¬ false = true by decide), if_neg (show ¬ (50 : Int32) ≤ SH x.toInt.toNat from Int32.not_le.mpr h5)]
        rcases hK with ⟨e, -, -⟩ | ⟨b, q1, q2, e, e2, e3⟩ | ⟨s, q1, e, -, -⟩
        · rw [e] at h0; exact absurd (by decide) h0
        · obtain ⟨y, hy, rfl, hy8⟩ : ∃ y : Nat, y < 2 ^ 31 ∧ k = nI y ∧ y < 8 := by
            have h9 := h2.2
            unfold zr_kind at h9
            simp only [Bool.and_eq_true, decide_eq_true_eq] at h9
            obtain ⟨y, hy, rfl⟩ := nI_of h9.1
            refine ⟨y, hy, rfl, ?_⟩
            have := mt (nI_leI (a := 8) (by decide) hy).mpr h9.2
            omega
          rw [e, e3, zb_nat (by omega), zb_nat hy]
          have e9 : zr_kindOf zr KD (nI b) = nI (KD b) := by
            unfold zr_kindOf
            rw [zb_w_n (by omega), decide_eq_true q1, if_pos rfl, zb_nat (by omega)]
          rw [e9, ze_un _ (hKD b) _ hy8]
        · rw [e] at h5
          have := (nI_ltI (b := 50) (by omega) (by decide)).mp h5
          omega
      · rw [show decide (¬ SH x.toInt.toNat < 50) = true from decide_eq_true h5, if_pos rfl, if_pos (show (50 : Int32) ≤ SH x.toInt.toNat from Int32.not_lt.mp h5)]
  · rw [if_neg hw, if_neg hw]
theorem ze_far {d k i y : Nat} (hd : d ≠ k) (hi : i < 60) (hy : y < 60) : 60 * d + i ≠ 60 * k + y := by omega
theorem ze_SS_keep (h : ze_SS zr SH MN IT so ln re Its) (hz : zr ≤ 50) {x y : Int32} {k : Nat} (hx : zb_w 6 x = true → x.toInt.toNat = k ∧ k < 6) :
    ze_SS zr (if zm_keep zr x y = true then upd SH (x.toInt.toNat) y else SH) (if zm_keep zr x y = true then zs_up MN (x.toInt.toNat) 0 else MN) IT (upd so k (if zh_keep zr x y = true then (-1) else so k)) (zs_up ln k (if zh_keep zr x y = true then 0 else ln k)) (upd re k (if zh_keep zr x y = true then y else re k)) (fun d => if d = k then Its k else Its d) := by
  rw [ze_keep hz]
  by_cases h1 : zm_keep zr x y = true
  · rw [if_pos h1, if_pos h1, if_pos h1, if_pos h1, if_pos h1]
    have h2 := h1
    unfold zm_keep at h2
    rw [Bool.and_eq_true, Bool.or_eq_true, decide_eq_true_eq] at h2
    obtain ⟨e, hk⟩ := hx h2.1
    rw [e]
    have s1 : upd SH k y k = y := if_pos rfl
    have s2 : zs_up MN k 0 k = 0 := if_pos rfl
    have hy : ze_K zr y (-1) y := by
      rcases h2.2 with q | q
      · exact Or.inl ⟨q, rfl, q⟩
      · obtain ⟨b, hb, rfl, hbz⟩ := zb_w_ex q
        exact Or.inr (Or.inl ⟨b, hbz, by omega, rfl, rfl, rfl⟩)
    have hn : ∀ j : Nat, 50 ≤ j → j < 100 → y ≠ nI j := fun j q1 q2 q3 => by
      rcases h2.2 with q | q
      · have h9 : (nI j).toInt = (j : Int) := nI_toInt (by omega)
        rw [← q3, q] at h9
        have h8 : (-1 : Int32).toInt = -1 := rfl
        omega
      · obtain ⟨b, hb, rfl, hbz⟩ := zb_w_ex q
        have := (nI_eq hb (by omega)).mp q3
        omega
    obtain ⟨a1, a2, a3, a4, a5, a6⟩ := h.2 k hk
    refine ze_SS_set h (fun i => ?_) (fun d _ hd => ⟨if_neg hd, if_neg hd, fun i _ => rfl⟩) ⟨by decide, s2, a3, by rw [s1]; exact hy, fun q => ?_, fun q => ?_⟩
    · show (if i = k then 0 else MN i) ≤ 60
      split
      · decide
      · exact h.1 i
    · rw [s1] at q; exact absurd q (hn 50 (by decide) (by decide))
    · rw [s1] at q; exact absurd q (hn 51 (by decide) (by decide))
  · rw [if_neg h1, if_neg h1, if_neg h1, if_neg h1, if_neg h1]
    exact ze_SS_same h
theorem ze_SS_row (h : ze_SS zr SH MN IT so ln re Its) {x y z : Int32} {k : Nat} (hx : zb_w 6 x = true → x.toInt.toNat = k ∧ k < 6) :
    ze_SS zr (if (zm_rowok x y z && decide (0 ≤ z)) = true then upd SH (x.toInt.toNat) (nI 50 + y) else SH) (if (zm_rowok x y z && decide (0 ≤ z)) = true then zs_up MN (x.toInt.toNat) z.toInt.toNat else MN) (if (zm_rowok x y z && decide (0 ≤ z)) = true then zm_wipe IT (x.toInt.toNat) (60 * x.toInt.toNat + 60) else IT)
      (upd so k (if (zh_rowok x y z && decide (¬ z < 0)) = true then y else so k)) (zs_up ln k (if (zh_rowok x y z && decide (¬ z < 0)) = true then z.toInt.toNat else ln k)) (upd re k (if (zh_rowok x y z && decide (¬ z < 0)) = true then (-1) else re k)) (fun d => if d = k then (if (zh_rowok x y z && decide (¬ z < 0)) = true then zs_fill (fun _ => lN 0) (Its k) 60 else Its k) else Its d) := by
  rw [ze_rowok, ze_nneg]
  by_cases h1 : (zm_rowok x y z && decide (0 ≤ z)) = true
  · rw [if_pos h1, if_pos h1, if_pos h1, if_pos h1, if_pos h1, if_pos h1, if_pos h1]
    have h2 := h1
    unfold zm_rowok at h2
    rw [Bool.and_eq_true, Bool.and_eq_true, Bool.and_eq_true, decide_eq_true_eq, decide_eq_true_eq] at h2
    obtain ⟨⟨h3, h4, h5⟩, h6⟩ := h2
    obtain ⟨e, hk⟩ := hx h3
    obtain ⟨s, hs, rfl, hs5⟩ := zb_w_ex h4
    obtain ⟨w, hw, rfl⟩ := zb_0le h6
    have hw60 : w ≤ 60 := (nI_leI (b := 60) hw (by decide)).mp h5
    rw [e, zb_nat hw]
    have s1 : upd SH k (nI 50 + nI s) k = nI (50 + s) := (if_pos rfl).trans (nI_add 50 s)
    have s2 : zs_up MN k w k = w := if_pos rfl
    have s3 : ∀ i, i < 60 → zm_wipe IT k (60 * k + 60) (60 * k + i) = lN 0 := fun i hi => if_pos ⟨by omega, by omega⟩
    refine ze_SS_set h (fun i => ?_) (fun d _ hd => ⟨if_neg hd, if_neg hd, fun i hi => if_neg (by omega)⟩) ⟨hw60, s2, fun i hi => ?_, by rw [s1]; exact Or.inr (Or.inr ⟨s, by omega, rfl, rfl, rfl⟩), fun _ i hi => ?_, fun _ i hi => ?_⟩
    · show (if i = k then w else MN i) ≤ 60
      split
      · exact hw60
      · exact h.1 i
    · rw [s3 i hi]; exact if_pos hi
    · rw [s3 i hi]; exact ⟨0, by decide⟩
    · rw [s3 i hi]; exact ⟨0, by decide, by decide⟩
  · rw [if_neg h1, if_neg h1, if_neg h1, if_neg h1, if_neg h1, if_neg h1, if_neg h1]
    exact ze_SS_same h
theorem ze_as_by {sh : Int32} {v : Int64} (h : sh = nI 50) : ze_by (zh_as (sh - nI 50) v) := by
  subst h
  exact ⟨v.toInt32.toInt8.toInt32, rfl⟩
theorem ze_as_sh {sh : Int32} {v : Int64} (h : sh = nI 51) : zm_sh (zh_as (sh - nI 50) v) := by
  subst h
  refine ⟨v.toInt32.toInt16.toInt32, rfl, ?_⟩
  rw [Int16.toInt_toInt32]
  have := v.toInt32.toInt16.toInt_le
  have e : Int16.maxValue.toInt = 32767 := rfl
  omega
theorem ze_SS_put (h : ze_SS zr SH MN IT so ln re Its) {x y : Int32} {v : Int64} {k : Nat} (hx : zb_w 6 x = true → x.toInt.toNat = k ∧ k < 6) :
    ze_SS zr SH MN (if zm_re SH MN x y = 0 then vp_updL IT (60 * x.toInt.toNat + y.toInt.toNat) (zh_as (SH x.toInt.toNat - nI 50) v) else IT) (upd so k (so k)) (zs_up ln k (ln k)) (upd re k (re k)) (fun d => if d = k then (if zh_re x y (so k) (re k) (ln k) = 0 then vp_updL (Its k) (y.toInt.toNat) (zh_as (so k) v) else Its k) else Its d) := by
  have hre : zh_re x y (so k) (re k) (ln k) = zm_re SH MN x y := ze_re (zr := zr) (fun hw => by
    obtain ⟨e, hk⟩ := hx hw
    obtain ⟨a1, a2, a3, a4, a5, a6⟩ := h.2 k hk
    rw [e]; exact ⟨a4, a2, a1⟩)
  rw [hre]
  by_cases h1 : zm_re SH MN x y = 0
  · rw [if_pos h1, if_pos h1]
    obtain ⟨hw, hy⟩ := zm_re_0 h1
    obtain ⟨e, hk⟩ := hx hw
    rw [e] at hy ⊢
    obtain ⟨a1, a2, a3, a4, a5, a6⟩ := h.2 k hk
    obtain ⟨j, hj, rfl, hjn⟩ := zb_w_ex hy
    rw [zb_nat hj]
    have hj60 : j < 60 := by omega
    have hr : ¬ SH k < 50 := fun q => by
      unfold zm_re at h1
      rw [if_pos hw, e] at h1
      by_cases h0 : SH k < 0
      · rw [if_pos h0] at h1; exact absurd h1 (by decide)
      · rw [if_neg h0, if_pos q] at h1; exact absurd h1 (by decide)
    rw [ze_K_as a4 hr]
    refine ze_SS_set h h.1 (fun d _ hd => ⟨rfl, rfl, fun i hi => if_neg (ze_far hd hi hj60)⟩) ⟨a1, a2, fun i hi => ?_, a4, fun q i hi => ?_, fun q i hi => ?_⟩
    · show (if i = j then _ else Its k i) = (if 60 * k + i = 60 * k + j then _ else IT (60 * k + i))
      by_cases c : i = j
      · rw [if_pos c, if_pos (by omega)]
      · rw [if_neg c, if_neg (by omega)]; exact a3 i hi
    · show ze_by (if 60 * k + i = 60 * k + j then _ else IT (60 * k + i))
      split
      · exact ze_as_by q
      · exact a5 q i hi
    · show zm_sh (if 60 * k + i = 60 * k + j then _ else IT (60 * k + i))
      split
      · exact ze_as_sh q
      · exact a6 q i hi
  · rw [if_neg h1, if_neg h1]
    exact ze_SS_same h
theorem ze_sh_eq (h : ze_SS zr SH MN IT so ln re Its) {x x2 i j nn : Int32} {k k2 : Nat} (hx : zb_w 6 x = true → x.toInt.toNat = k ∧ k < 6) (hx2 : zb_w 6 x2 = true → x2.toInt.toNat = k2 ∧ k2 < 6) :
    zh_shc x x2 (so k) (re k) (so k2) (re k2) (ln k) (ln k2) i j nn = zm_shr SH MN x x2 i j nn ∧ zh_okc x x2 (so k) (re k) (so k2) (re k2) (ln k) (ln k2) i j nn = zm_sho SH MN x x2 i j nn := by
  unfold zh_shc zm_shr zh_okc zm_sho
  cases hw : (zb_w 6 x && zb_w 6 x2) with
  | false => exact ⟨rfl, rfl⟩
  | true =>
    have h2 := (Bool.and_eq_true _ _).mp hw
    obtain ⟨e, hk⟩ := hx h2.1
    obtain ⟨e2, hk2⟩ := hx2 h2.2
    obtain ⟨a1, a2, a3, a4, a5, a6⟩ := h.2 k hk
    obtain ⟨b1, b2, b3, b4, b5, b6⟩ := h.2 k2 hk2
    rw [if_pos rfl, if_pos rfl, e, e2, a2, b2, ze_K_non a4, ze_K_non b4, ze_K_row a4, ze_K_row b4]
    have hsame : ¬ SH k < 50 → ((decide (¬ SH k2 < 50) && decide (so k2 = so k)) = decide (SH k = SH k2)) := fun hr => by
      obtain ⟨s, q1, q2, q3⟩ := ze_K_sort a4 hr
      by_cases hr2 : SH k2 < 50
      · rw [show decide (¬ SH k2 < 50) = false from decide_eq_false (fun q => q hr2), Bool.false_and, decide_eq_false (fun q => hr (by rw [q]; exact hr2))]
      · obtain ⟨s2, p1, p2, p3⟩ := ze_K_sort b4 hr2
        rw [show decide (¬ SH k2 < 50) = true from decide_eq_true hr2, Bool.true_and, q2, q3, p2, p3]
        refine decide_eq_decide.mpr ?_
        rw [nI_eq (by omega) (by omega), nI_eq (by omega) (by omega)]
        omega
    by_cases h0 : SH k < 0
    · rw [show decide (SH k < 0) = true from decide_eq_true h0, if_pos rfl, if_pos (Or.inl h0), decide_eq_false (fun q : ¬ (SH k < 0 ∨ SH k2 < 0) => q (Or.inl h0))]
      exact ⟨rfl, rfl⟩
    · rw [show decide (SH k < 0) = false from decide_eq_false h0, if_neg (show ¬ false = true by decide)]
      by_cases h02 : SH k2 < 0
      · rw [show decide (SH k2 < 0) = true from decide_eq_true h02, if_pos rfl, if_pos (Or.inr h02), decide_eq_false (fun q : ¬ (SH k < 0 ∨ SH k2 < 0) => q (Or.inr h02))]
        exact ⟨rfl, rfl⟩
      · rw [show decide (SH k2 < 0) = false from decide_eq_false h02, if_neg (show ¬ false = true by decide), if_neg (show ¬ (SH k < 0 ∨ SH k2 < 0) from fun q => q.elim h0 h02), decide_eq_true (show ¬ (SH k < 0 ∨ SH k2 < 0) from fun q => q.elim h0 h02)]
        by_cases h5 : SH k < 50
        · rw [show decide (¬ SH k < 50) = false from decide_eq_false (fun q => q h5), Bool.false_and, if_neg (show ¬ false = true by decide), if_pos (show SH k < 50 ∨ ¬ SH k = SH k2 from Or.inl h5), decide_eq_false (fun q : ¬ (SH k < 50 ∨ ¬ SH k = SH k2) => q (Or.inl h5))]
          exact ⟨rfl, rfl⟩
        · rw [show decide (¬ SH k < 50) = true from decide_eq_true h5, Bool.true_and, hsame h5]
          by_cases h6 : SH k = SH k2
          · have h7 : ¬ (SH k < 50 ∨ ¬ SH k = SH k2) := fun q => q.elim h5 (fun q2 => q2 h6)
            rw [decide_eq_true h6, if_pos rfl, if_neg h7, decide_eq_true h7]
            exact ⟨rfl, rfl⟩
          · have h7 : SH k < 50 ∨ ¬ SH k = SH k2 := Or.inr h6
            rw [decide_eq_false h6, if_neg (show ¬ false = true by decide), if_pos h7, decide_eq_false (fun q : ¬ (SH k < 50 ∨ ¬ SH k = SH k2) => q h7)]
            exact ⟨rfl, rfl⟩
theorem ze_SS_shift (h : ze_SS zr SH MN IT so ln re Its) {x x2 i j nn : Int32} {k k2 : Nat} (hx : zb_w 6 x = true → x.toInt.toNat = k ∧ k < 6) (hx2 : zb_w 6 x2 = true → x2.toInt.toNat = k2 ∧ k2 < 6) :
    ze_SS zr SH MN (if zm_sho SH MN x x2 i j nn = true then va_cpy IT IT (60 * x.toInt.toNat + i.toInt.toNat) (60 * x2.toInt.toNat + j.toInt.toNat) nn.toInt.toNat else IT) (upd so k2 (so k2)) (zs_up ln k2 (ln k2)) (upd re k2 (re k2))
      (fun d => if d = k2 then (if zh_okc x x2 (so k) (re k) (so k2) (re k2) (ln k) (ln k2) i j nn = true then va_cpy (Its k) (Its k2) i.toInt.toNat j.toInt.toNat nn.toInt.toNat else Its k2) else Its d) := by
  rw [(ze_sh_eq h hx hx2).2]
  by_cases h1 : zm_sho SH MN x x2 i j nn = true
  · rw [if_pos h1, if_pos h1]
    unfold zm_sho at h1
    simp only [Bool.and_eq_true, decide_eq_true_eq] at h1
    obtain ⟨⟨w1, w2⟩, c0, c1, c2, c3⟩ := h1
    obtain ⟨e, hk⟩ := hx w1
    obtain ⟨e2, hk2⟩ := hx2 w2
    obtain ⟨a1, a2, a3, a4, a5, a6⟩ := h.2 k hk
    obtain ⟨b1, b2, b3, b4, b5, b6⟩ := h.2 k2 hk2
    rw [e, a2] at c2
    rw [e2, b2] at c3
    obtain ⟨i0, n0, rfl, rfl, hin⟩ := zh_pl_ex a1 c2
    obtain ⟨j0, n1, rfl, en, hjn⟩ := zh_pl_ex b1 c3
    have hn0 : (nI n0).toInt.toNat ≤ 60 ∧ i0 + (nI n0).toInt.toNat ≤ 60 ∧ j0 + (nI n0).toInt.toNat ≤ 60 := by
      rw [zb_nat (show n0 < 2 ^ 31 by omega)]
      have q : (nI n0).toInt.toNat = (nI n1).toInt.toNat := congrArg (fun t : Int32 => t.toInt.toNat) en
      rw [zb_nat (show n0 < 2 ^ 31 by omega), zb_nat (show n1 < 2 ^ 31 by omega)] at q
      omega
    rw [e, e2, zb_nat (show i0 < 2 ^ 31 by omega), zb_nat (show j0 < 2 ^ 31 by omega)]
    rw [e, e2] at c1
    generalize (nI n0).toInt.toNat = m at hn0
    have hsame : SH k = SH k2 := Decidable.byContradiction (fun q => c1 (Or.inr q))
    refine ze_SS_set h h.1 (fun d _ hd => ⟨rfl, rfl, fun y hy => if_neg (by omega)⟩) ⟨b1, b2, fun y hy => ?_, b4, fun q y hy => ?_, fun q y hy => ?_⟩
    · show (if j0 ≤ y ∧ y < j0 + m then Its k (i0 + (y - j0)) else Its k2 y) = (if 60 * k2 + j0 ≤ 60 * k2 + y ∧ 60 * k2 + y < 60 * k2 + j0 + m then IT (60 * k + i0 + (60 * k2 + y - (60 * k2 + j0))) else IT (60 * k2 + y))
      by_cases c : j0 ≤ y ∧ y < j0 + m
      · rw [if_pos c, if_pos (by omega), a3 _ (by omega)]
        congr 1
        omega
      · rw [if_neg c, if_neg (by omega), b3 y hy]
    · show ze_by (if 60 * k2 + j0 ≤ 60 * k2 + y ∧ 60 * k2 + y < 60 * k2 + j0 + m then IT (60 * k + i0 + (60 * k2 + y - (60 * k2 + j0))) else IT (60 * k2 + y))
      split
      · have h9 := a5 (by rw [hsame]; exact q) (i0 + (60 * k2 + y - (60 * k2 + j0))) (by omega)
        rwa [← Nat.add_assoc] at h9
      · exact b5 q y hy
    · show zm_sh (if 60 * k2 + j0 ≤ 60 * k2 + y ∧ 60 * k2 + y < 60 * k2 + j0 + m then IT (60 * k + i0 + (60 * k2 + y - (60 * k2 + j0))) else IT (60 * k2 + y))
      split
      · have h9 := a6 (by rw [hsame]; exact q) (i0 + (60 * k2 + y - (60 * k2 + j0))) (by omega)
        rwa [← Nat.add_assoc] at h9
      · exact b6 q y hy
  · rw [if_neg h1, if_neg h1]
    exact ze_SS_same h
end EF5

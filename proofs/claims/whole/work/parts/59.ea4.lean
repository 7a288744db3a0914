/-! What the class and the reference say of messages that are asked for: the same. -/
theorem zy_ne2 {b : Nat} (h : b < 1000001) : ¬ nI b = -2 := zc_ne (by omega)
theorem zy_eq2 (c : Bool) : ((if c = true then (-2 : Int32) else -2)) = -2 := by cases c <;> rfl
section
variable {n : Nat} {s : Nat → Nat → Nat → Bool} {wd : Nat → Nat} {ld : Nat → Nat → Bool}
theorem zy_soonest (h : zy_ok n s wd) (hL : ∀ p q t m, p < n → zv_at wd (n * (n - 1) / 2) p q t m = true → ld p q = true) (pq t : Int32) : zu_soon n ld (zv_few wd (n * (n - 1) / 2)) pq t = zm_soon 1 n s pq t := by
  unfold zu_soon zm_soon
  by_cases hc : (zb_pair n pq && zb_s t) = true
  · have h1 := zy_pq ((Bool.and_eq_true _ _).mp hc).1
    rw [if_pos hc, if_pos hc]
    exact zy_soon h h1.1 h1.2.1 h1.2.2 (fun m hm => hL _ _ _ m h1.1 hm)
  · rw [if_neg hc, if_neg hc]
theorem zy_handsR (h : zy_ok n s wd) (hL : ∀ p q t m, p < n → zv_at wd (n * (n - 1) / 2) p q t m = true → ld p q = true) (pq t : Int32) : zu_soon n ld (zv_hands wd (n * (n - 1) / 2)) pq t = zm_soon 0 n s pq t := by
  unfold zu_soon zm_soon
  by_cases hc : (zb_pair n pq && zb_s t) = true
  · have h1 := zy_pq ((Bool.and_eq_true _ _).mp hc).1
    rw [if_pos hc, if_pos hc]
    exact zy_handsL h h1.1 h1.2.1 (fun m hm => hL _ _ _ m h1.1 hm)
  · rw [if_neg hc, if_neg hc]
theorem zy_way (h : zy_ok n s wd) (hn6 : n ≤ 6) (hL : ∀ p q t m, p < n → zv_at wd (n * (n - 1) / 2) p q t m = true → ld p q = true) (pq t k : Int32) : zu_way n ld wd (n * (n - 1) / 2) pq t k = zm_way n s pq t k := by
  unfold zu_way zm_way
  by_cases hc : (zb_pair n pq && zb_s t && decide (0 ≤ k)) = true
  · have h0 := (Bool.and_eq_true _ _).mp hc
    have h1 := zy_pq ((Bool.and_eq_true _ _).mp h0.1).1
    obtain ⟨kk, hk, rfl⟩ := zb_0le (of_decide_eq_true h0.2)
    rw [if_pos hc, if_pos hc, zy_soon h h1.1 h1.2.1 h1.2.2 (fun m hm => hL _ _ _ m h1.1 hm), zy_few h h1.1 h1.2.1 h1.2.2, zb_nat hk]
    have q1 := zm_bk_le 1 s n (zu_q pq) t.toInt.toNat 600 (zu_p pq)
    by_cases hb : zm_bk 1 s n (zu_q pq) t.toInt.toNat 600 (zu_p pq) < 1000000
    · have h6 := (zm_bk_d (s := s) (n := n) (q := zu_q pq) (t := t.toInt.toNat) 600 (zu_p pq)).resolve_left (by omega)
      rw [if_pos hb, if_neg (zy_ne2 (by omega)), if_neg (show ¬ zm_bk 1 s n (zu_q pq) t.toInt.toNat 600 (zu_p pq) = 1000000 by omega), zb_nat (show zm_bk 1 s n (zu_q pq) t.toInt.toNat 600 (zu_p pq) < 2 ^ 31 by omega)]
      by_cases h7 : kk ≤ zm_bk 1 s n (zu_q pq) t.toInt.toNat 600 (zu_p pq)
      · rw [if_pos ((nI_leI hk (by omega)).mpr h7), if_pos h7, zy_hold h hn6 h1.1 kk h7]
      · rw [if_neg (fun q9 => h7 ((nI_leI hk (by omega)).mp q9)), if_neg h7]
    · rw [if_neg hb, if_pos rfl, if_pos (by omega)]
  · rw [if_neg hc, if_neg hc]
theorem zy_waits (h : zy_ok n s wd) {R : Nat} (hR : R ≤ 30000) (hR1 : 1 ≤ R) (x pq part : Int32) : zu_waits n (fun p q => zv_wt wd (n * (n - 1) / 2) p q (R + 600 - 1)) R pq part = zm_waits n s R x pq part := by
  unfold zu_waits zm_waits
  by_cases hc : (zb_pair n pq && zu_01 part) = true
  · have h1 := zy_pq ((Bool.and_eq_true _ _).mp hc).1
    rw [if_pos hc, if_pos hc]
    have h2 := zy_wait h (q := zu_q pq) (x := x) h1.1 h1.2.2 hR hR1
    simp only
    cases hok : zv_ok (zv_wt wd (n * (n - 1) / 2) (zu_p pq) (zu_q pq) (R + 600 - 1)) R 600
    · rw [h2.2 hok, if_neg (by decide), if_pos (Or.inr (by decide))]
    · obtain ⟨h3, h4, h5⟩ := h2.1 hok
      rw [if_pos rfl, h3, h5]
      by_cases h6 : part = 0
      · rw [if_pos h6, if_pos (Or.inl h6)]
      · rw [if_neg h6, if_neg (fun q9 => q9.elim h6 (nI_pos (by omega)))]
  · rw [if_neg hc, if_neg hc]
theorem zy_safe (h : zy_ok n s wd) (storm : Nat) (hL : ∀ p q t m, p < n → zv_at wd (n * (n - 1) / 2) p q t m = true → ld p q = true) (pq t part : Int32) : zu_safe n storm ld wd (n * (n - 1) / 2) pq t part = zm_safe n storm s pq t part := by
  unfold zu_safe zm_safe
  by_cases hc : (zb_pair n pq && zb_s t && zu_okp part) = true
  · have h0 := (Bool.and_eq_true _ _).mp hc
    have h1 := zy_pq ((Bool.and_eq_true _ _).mp h0.1).1
    rw [if_pos hc, if_pos hc, zy_soon h h1.1 h1.2.1 h1.2.2 (fun m hm => hL _ _ _ m h1.1 hm), zy_few h h1.1 h1.2.1 h1.2.2]
    have q1 := zm_bk_le 1 s n (zu_q pq) t.toInt.toNat 600 (zu_p pq)
    by_cases hb : zm_bk 1 s n (zu_q pq) t.toInt.toNat 600 (zu_p pq) < 1000000
    · have h6 := (zm_bk_d (s := s) (n := n) (q := zu_q pq) (t := t.toInt.toNat) 600 (zu_p pq)).resolve_left (by omega)
      rw [if_pos hb, if_neg (zy_ne2 (by omega)), if_neg (by omega), zb_nat (by omega), (zy_fw_lt h h1.1 h1.2.1 h6).1]
    · rw [if_neg hb, if_pos rfl, if_pos (by omega)]
  · rw [if_neg hc, if_neg hc]
/-- who has it next -/
theorem zy_nx (h : zy_ok n s wd) (hn6 : n ≤ 6) (hL : ∀ p q t m, p < n → zv_at wd (n * (n - 1) / 2) p q t m = true → ld p q = true) {x q t : Nat} (hx : x < n) (hq : q < n) (hne : x ≠ q) : zd_nx ld wd (n * (n - 1) / 2) n x q t = zm_nx s n x q t := by
  have e := zy_soon h hx hq hne (t := t) (fun m hm => hL _ _ _ m hx hm)
  have ef := zy_few h hx hq hne (t := t)
  have q1 := zm_bk_le 1 s n q t 600 x
  have q2 := zm_bk_1 (s := s) (n := n) (t := t) hne
  unfold zd_nx zm_nx
  by_cases hb : zm_bk 1 s n q t 600 x < 1000000
  · have h6 := (zm_bk_d (s := s) (n := n) (q := q) (t := t) 600 x).resolve_left (by omega)
    rw [if_pos hb] at e ef
    by_cases hl : ld x q = true
    · rw [if_pos hl, ef, if_neg (zy_ne2 (by omega)), if_neg (by omega), zb_nat (by omega), zy_hold h hn6 hx 1 q2]
    · rw [if_neg hl] at e
      exact absurd e.symm (zy_ne2 (by omega))
  · rw [if_neg hb] at ef
    rw [if_pos (show zm_bk 1 s n q t 600 x = 1000000 by omega)]
    by_cases hl : ld x q = true
    · rw [if_pos hl, if_pos ef]
    · rw [if_neg hl]
/-- days drawn -/
theorem zy_dr {fw fw' : Nat → Nat → Nat → Int32} (hf : ∀ p q t, p < n → q < n → p ≠ q → fw p q t = fw' p q t) (hn : 2 ≤ n) (R : Nat) (c : Int32) : ∀ i, zx_dr fw n R c i = zx_dr fw' n R c i
  | 0 => rfl
  | i + 1 => by
    have ih := zy_dr hf hn R c i
    simp only [zx_dr]
    rw [ih]
    have hp : zn_draw (zn_next (zx_dr fw' n R c i).1) n < n := Nat.mod_lt _ (by omega)
    have hq : zn_draw (zn_next (zn_next (zx_dr fw' n R c i).1)) n < n := Nat.mod_lt _ (by omega)
    rw [hf _ _ _ hp (zx_q_lt hq) (zx_q_ne hn hq)]
theorem zy_drawn {fw fw' : Nat → Nat → Nat → Int32} (hf : ∀ p q t, p < n → q < n → p ≠ q → fw p q t = fw' p q t) (R : Nat) (seed k part : Int32) : zu_drawn fw n R seed k part = zu_drawn fw' n R seed k part := by
  unfold zu_drawn
  by_cases hn : n < 2
  · rw [if_pos hn, if_pos hn]
  · rw [if_neg hn, if_neg hn, zy_dr hf (by omega)]
end
/-! A relay that is thought of. -/
theorem zy_RrM {n per ring s : Nat} {P S Q M : Nat → Nat} {hide : Nat} (hn : n ≤ 6) (h : zy_R n P S Q hide M) : zy_R (n + 1) (zs_up P n per) (zs_up S n s) (zs_up Q n ring) hide (zm_rM M n per ring s) := by
  refine ⟨fun x hx => ?_, (h.2.trans (zm_rM_21 hn).symm)⟩
  simp only [zm_rM, zs_up]
  by_cases e : x = n
  · subst e
    rw [if_pos rfl, if_pos rfl, if_pos rfl, if_neg (by omega), if_neg (by omega), if_pos rfl, if_pos rfl, if_neg (by omega), if_pos rfl]
    exact ⟨rfl, rfl, rfl⟩
  · have h1 := h.1 x (by omega)
    rw [if_neg e, if_neg e, if_neg e, if_neg (by omega), if_neg (by omega), if_neg (by omega), if_neg (by omega), if_neg (by omega), if_neg (by omega), if_neg (by omega), if_neg (by omega), if_neg (by omega)]
    exact h1
theorem zy_relay {tl : Bool} {ev : (Nat → Int32) → Int32} {n : Nat} {P S Q M : Nat → Nat} {hide : Nat} (hn : n ≤ 6) (hW : zs_W n P S) (h : zy_R n P S Q hide M) (pq pr part : Int32) : zu_relay n (fun p q period ring => zv_rb tl ev P S Q hide n p q period ring) pq pr part = zm_relay n (zm_rw tl ev M n) pq pr part := by
  unfold zu_relay zm_relay
  show (if (zb_pair n pq && zm_prk pr && zu_01 part) = true then _ else _) = _
  by_cases hc : (zb_pair n pq && zm_prk pr && zu_01 part) = true
  · have h0 := (Bool.and_eq_true _ _).mp ((Bool.and_eq_true _ _).mp hc).1
    have h1 := zy_pq h0.1
    rw [if_pos hc, if_pos hc]
    obtain ⟨v, hv, rfl⟩ : ∃ v : Nat, v < 2 ^ 31 ∧ pr = nI v := by
      have h2 := h0.2
      simp only [zm_prk, Bool.and_eq_true, decide_eq_true_eq] at h2
      obtain ⟨v, hv, e, -⟩ := zb_of (x := pr) h2.1
      exact ⟨v, hv, e⟩
    rw [zb_nat hv]
    have h2 : zs_isW (nI (v / 10)) (nI 0) (nI (v % 10)) = true := by
      have h3 := h0.2
      unfold zm_prk at h3
      rw [zb_nat hv, decide_eq_true (zb_nat0 hv), Bool.true_and] at h3; exact h3
    have hw := zs_isW_n (by omega) (by decide) h2
    have key := zy_best (ok := fun s l => zv_ok (zv_rw tl ev P S Q hide n (zu_p pq) (zu_q pq) (v / 10) (v % 10) s) (zs_rnd (zs_up P n (v / 10)) (n + 1)) l) (lg := fun s => (zv_Lg (zv_rw tl ev P S Q hide n (zu_p pq) (zu_q pq) (v / 10) (v % 10) s) (zs_rnd (zs_up P n (v / 10)) (n + 1)) (zs_rnd (zs_up P n (v / 10)) (n + 1))).1) (wf := zm_rw tl ev M n (v / 10) (v % 10) (zu_p pq) (zu_q pq)) (N := v / 10) (by omega)
      (fun s hs => by
        have hR := zy_RrM (per := v / 10) (ring := v % 10) (s := s) hn h
        have hW1 := zs_W_add (s := s) hW (by omega) hw.1 hw.2.1 (by omega)
        have hr := zs_rnd_in (P := zs_up P n (v / 10)) (n := n + 1) (fun i hi => ⟨(hW1.2 i hi).1, (hW1.2 i hi).2.1⟩)
        have h3 := zy_wait (zy_okR (tl := tl) (ev := ev) (by omega) hR) (p := zu_p pq) (q := zu_q pq) (x := 0) (r := zs_rnd (zs_up P n (v / 10)) (n + 1)) (by omega) h1.2.2 (by omega) hr.1
        unfold zm_rw
        rw [← zy_rnd hR (n + 1) (Nat.le_refl _)]
        show _ = if zv_ok (zv_wt (zu_wd tl ev (zs_up P n (v / 10)) (zs_up S n s) (zs_up Q n (v % 10)) hide (n + 1)) ((n + 1) * (n + 1 - 1) / 2) (zu_p pq) (zu_q pq) (zs_rnd (zs_up P n (v / 10)) (n + 1) + 600 - 1)) (zs_rnd (zs_up P n (v / 10)) (n + 1)) 600 = true then _ else _
        cases hok : zv_ok (zv_wt (zu_wd tl ev (zs_up P n (v / 10)) (zs_up S n s) (zs_up Q n (v % 10)) hide (n + 1)) ((n + 1) * (n + 1 - 1) / 2) (zu_p pq) (zu_q pq) (zs_rnd (zs_up P n (v / 10)) (n + 1) + 600 - 1)) (zs_rnd (zs_up P n (v / 10)) (n + 1)) 600
        · rw [if_neg (by decide)]; exact h3.2 hok
        · rw [if_pos rfl]; exact (h3.1 hok).1)
      (fun s hs => by
        have hW1 := zs_W_add (s := s) hW (by omega) hw.1 hw.2.1 (by omega)
        have hr := zs_rnd_in (P := zs_up P n (v / 10)) (n := n + 1) (fun i hi => ⟨(hW1.2 i hi).1, (hW1.2 i hi).2.1⟩)
        exact (zv_rw_in (by omega) hr.1).1)
      (fun s l hs => zv_ok_Lg) (v / 10) (Nat.le_refl _)
    show (if (zv_bst _ _ (v / 10)).1 = -2 then (-2 : Int32) else if part = 0 then (zv_bst _ _ (v / 10)).1 else (zv_bst _ _ (v / 10)).2.1) = _
    rcases key with ⟨k1, k2, k3⟩ | ⟨s0, m, k1, k2, k3, k4, k5⟩
    · rw [if_pos k1, k3]
      by_cases e : part = 0
      · rw [if_pos e]
      · rw [if_neg e]
    · rw [k4, k5, if_neg (zc_ne (by omega))]
  · rw [if_neg hc, if_neg hc]
/-! Messages led in deed. -/
/-- what the reference keeps of M messages, what the class does -/
def zy_Dd (M : Nat) (Sn Tg : Nat → Nat) (st : zd_T) (g : zm_T) : Prop := (∀ x, x < M → g.1 (4 * x) = nI (Sn x) ∧ g.1 (4 * x + 1) = nI (Tg x) ∧ g.1 (4 * x + 2) = st.1 x ∧ g.1 (4 * x + 3) = st.2.1 x) ∧ (∀ w, w < 6 → g.2.1 w = st.2.2.1 w) ∧ g.2.2 = st.2.2.2
/-- who has come has it -/
def zy_av (M : Nat) (Tg : Nat → Nat) (st : zd_T) : Prop := ∀ x, x < M → st.2.1 x = -2 ∨ st.1 x = nI (Tg x)
theorem zy_cnt_up {Av : Nat → Int32} {m : Nat} {v : Int32} (h : Av m = -2) (hv : v ≠ -2) : ∀ M, zd_cnt (upd Av m v) M = zd_cnt Av M + (if m < M then 1 else 0)
  | 0 => rfl
  | M + 1 => by
    have ih := zy_cnt_up h hv M
    simp only [zd_cnt]
    rw [ih]
    by_cases e : M = m
    · have h1 : upd Av m v M = v := if_pos e
      rw [h1, if_neg hv, if_neg (show ¬ m < M by omega), if_pos (show m < M + 1 by omega), if_pos (show Av M = -2 by rw [e]; exact h)]
    · have h1 : upd Av m v M = Av M := if_neg e
      rw [h1]
      by_cases h2 : m < M
      · rw [if_pos h2, if_pos (show m < M + 1 by omega)]; omega
      · rw [if_neg h2, if_neg (show ¬ m < M + 1 by omega)]; omega
theorem zy_u1 {f : Nat → Int32} {k x : Nat} {v : Int32} (h : x = k) : upd f k v x = v := if_pos h
theorem zy_u2 {f : Nat → Int32} {k x : Nat} {v : Int32} (h : x ≠ k) : upd f k v x = f x := if_neg h
section
variable {n M : Nat} {Sn Tg : Nat → Nat} {NX NX' : Nat → Nat → Nat → Nat} {storm : Nat}
theorem zy_car (hn : n ≤ 6) (hM : M ≤ 10) (hNX : ∀ h q t, h < n → q < n → h ≠ q → NX h q t = NX' h q t) {now m : Nat} (hnow : now < 2 ^ 29) (hm : m < M) {st : zd_T} {g : zm_T} (hok : zd_ok n M Tg st.1) (hD : zy_Dd M Sn Tg st g) (hav : zy_av M Tg st) :
    zy_Dd M Sn Tg (zd_car NX Tg storm now m st) (zm_car NX' storm now m g).2 ∧ zy_av M Tg (zd_car NX Tg storm now m st) ∧ zd_cnt (zd_car NX Tg storm now m st).2.1 M = zd_cnt st.2.1 M + (if (zm_car NX' storm now m g).1 = true then 1 else 0) := by
  obtain ⟨Hd, Av, Ld, c⟩ := st
  obtain ⟨G, HD, z⟩ := g
  obtain ⟨d1, d2, d3⟩ := hD
  simp only at d1 d2 d3
  subst d3
  obtain ⟨hT, hH⟩ := hok m hm
  simp only at hT hH
  have hmm := d1 m hm
  by_cases h0 : Hd m = -2 ∨ Hd m = nI (Tg m)
  · have e1 : zd_car NX Tg storm now m (Hd, Av, Ld, z) = (Hd, Av, Ld, z) := if_pos h0
    have e2 : zm_car NX' storm now m (G, HD, z) = (false, (G, HD, z)) := zm_car_0 (by
      rw [hmm.2.2.1, hmm.2.1]
      exact h0.elim (fun h => Or.inl (by rw [h]; decide)) Or.inr)
    rw [e1, e2]
    exact ⟨⟨d1, d2, rfl⟩, hav, rfl⟩
  · obtain ⟨h, hh, eh⟩ := hH.resolve_left (fun q => h0 (Or.inl q))
    have hne : h ≠ Tg m := fun q => h0 (Or.inr (by rw [eh, q]))
    have ea : Av m = -2 := (hav m hm).resolve_right (fun q => h0 (Or.inr q))
    have e2 := zm_car_s (NX := NX') (storm := storm) (now := now) (HD := HD) (z := z) (hmm.2.2.1.trans eh) hmm.2.1 (by omega) (by omega) hne
    rw [e2]
    have e1 : zd_car NX Tg storm now m (Hd, Av, Ld, z) = if NX' h (Tg m) now = h then (Hd, Av, Ld, z) else (upd Hd m (zd_h (decide (zn_draw z 12 < storm)) (NX' h (Tg m) now)), zd_a (decide (zn_draw z 12 < storm)) (NX' h (Tg m) now) (Tg m) m now Av, zs_up Ld h (Ld h + 1), zn_next z) := by
      unfold zd_car
      simp only
      rw [if_neg h0, eh, zb_nat (by omega), hNX _ _ _ hh hT hne]
    rw [e1]
    by_cases e3 : NX' h (Tg m) now = h
    · rw [if_pos e3, if_pos e3]
      exact ⟨⟨d1, d2, rfl⟩, hav, rfl⟩
    · rw [if_neg e3, if_neg e3]
      have hLd : ∀ w, w < 6 → zs_up HD h (HD h + 1) w = zs_up Ld h (Ld h + 1) w := fun w hw => by
        simp only [zs_up]; rw [d2 w hw, d2 h (by omega)]
      have g2 : ∀ v x, x < M → upd G (4 * m + 2) v (4 * x + 2) = upd Hd m v x := fun v x hx => by
        by_cases e5 : x = m
        · exact (zy_u1 (by omega)).trans (zy_u1 e5).symm
        · exact (zy_u2 (by omega)).trans ((d1 x hx).2.2.1.trans (zy_u2 e5).symm)
      have keep : ∀ v x, x < M → upd G (4 * m + 2) v (4 * x) = nI (Sn x) ∧ upd G (4 * m + 2) v (4 * x + 1) = nI (Tg x) ∧ upd G (4 * m + 2) v (4 * x + 2) = upd Hd m v x ∧ upd G (4 * m + 2) v (4 * x + 3) = Av x := fun v x hx =>
        ⟨(zy_u2 (by omega)).trans (d1 x hx).1, (zy_u2 (by omega)).trans (d1 x hx).2.1, g2 v x hx, (zy_u2 (by omega)).trans (d1 x hx).2.2.2⟩
      have hav2 : ∀ v x, x < M → Av x = -2 ∨ upd Hd m v x = nI (Tg x) := fun v x hx => by
        by_cases e5 : x = m
        · rw [e5]; exact Or.inl ea
        · rw [zy_u2 e5]; exact hav x hx
      by_cases e4 : zn_draw z 12 < storm
      · have ez : zd_a true (NX' h (Tg m) now) (Tg m) m now Av = Av := if_neg (fun q => absurd q.1 (by decide))
        have ey : zd_h true (NX' h (Tg m) now) = -2 := rfl
        rw [if_pos e4, decide_eq_true e4, ez, ey]
        exact ⟨⟨fun x hx => keep _ x hx, hLd, rfl⟩, fun x hx => hav2 _ x hx, rfl⟩
      · have ey : zd_h false (NX' h (Tg m) now) = nI (NX' h (Tg m) now) := rfl
        rw [if_neg e4, decide_eq_false e4, ey]
        by_cases e6 : NX' h (Tg m) now = Tg m
        · have ez : zd_a false (NX' h (Tg m) now) (Tg m) m now Av = upd Av m (nI (now + 1)) := if_pos ⟨rfl, e6⟩
          rw [if_pos e6, ez]
          refine ⟨⟨fun x hx => ?_, hLd, rfl⟩, fun x hx => ?_, ?_⟩
          · have hk := keep (nI (NX' h (Tg m) now)) x hx
            refine ⟨(zy_u2 (by omega)).trans hk.1, (zy_u2 (by omega)).trans hk.2.1, (zy_u2 (by omega)).trans hk.2.2.1, ?_⟩
            by_cases e5 : x = m
            · exact (zy_u1 (by omega)).trans (zy_u1 e5).symm
            · exact (zy_u2 (by omega)).trans (hk.2.2.2.trans (zy_u2 e5).symm)
          · by_cases e5 : x = m
            · refine Or.inr ((zy_u1 e5).trans ?_)
              rw [e6, e5]
            · rcases hav x hx with h9 | h9
              · exact Or.inl ((zy_u2 e5).trans h9)
              · exact Or.inr ((zy_u2 e5).trans h9)
          · show zd_cnt (upd Av m (nI (now + 1))) M = _
            rw [zy_cnt_up ea (zc_ne (by omega)), if_pos hm]
            rfl
        · have ez : zd_a false (NX' h (Tg m) now) (Tg m) m now Av = Av := if_neg (fun q => e6 q.2)
          rw [if_neg e6, ez]
          exact ⟨⟨fun x hx => keep _ x hx, hLd, rfl⟩, fun x hx => hav2 _ x hx, rfl⟩
theorem zy_row (hn : n ≤ 6) (hM : M ≤ 10) (hNX : ∀ h q t, h < n → q < n → h ≠ q → NX h q t = NX' h q t) (hlt : ∀ h q t, h < n → NX h q t < n) {now c : Nat} (hnow : now < 2 ^ 29) {st : zd_T} {g : zm_T} (hok : zd_ok n M Tg st.1) (hD : zy_Dd M Sn Tg st g) (hav : zy_av M Tg st) : ∀ m, m ≤ M →
    zy_Dd M Sn Tg (zd_row NX Tg storm now st m) (zm_rw8 NX' storm now c g m).2 ∧ zy_av M Tg (zd_row NX Tg storm now st m) ∧ zd_cnt (zd_row NX Tg storm now st m).2.1 M + c = zd_cnt st.2.1 M + (zm_rw8 NX' storm now c g m).1
  | 0, _ => ⟨hD, hav, rfl⟩
  | m + 1, hm => by
    obtain ⟨i1, i2, i3⟩ := zy_row hn hM hNX hlt (c := c) hnow hok hD hav m (by omega)
    obtain ⟨j1, j2, j3⟩ := zy_car (storm := storm) hn hM hNX hnow (show m < M by omega) (zd_row_ok hn (fun h to t hh => hlt h to t hh) hok m (by omega)) i1 i2
    refine ⟨j1, j2, ?_⟩
    show zd_cnt (zd_car NX Tg storm now m (zd_row NX Tg storm now st m)).2.1 M + c = zd_cnt st.2.1 M + ((zm_rw8 NX' storm now c g m).1 + _)
    rw [j3]; omega
theorem zy_go (hn : n ≤ 6) (hM : M ≤ 10) (hNX : ∀ h q t, h < n → q < n → h ≠ q → NX h q t = NX' h q t) (hlt : ∀ h q t, h < n → NX h q t < n) {now : Nat} (hnow : now < 2 ^ 28) {st : zd_T} {g : zm_T} (hok : zd_ok n M Tg st.1) (hD : zy_Dd M Sn Tg st g) (hav : zy_av M Tg st) : ∀ k, k ≤ 99 →
    zy_Dd M Sn Tg (zd_go NX Tg storm M now st k) (zm_go NX' storm M now g k).2 ∧ zy_av M Tg (zd_go NX Tg storm M now st k) ∧ zd_cnt (zd_go NX Tg storm M now st k).2.1 M = zd_cnt st.2.1 M + (zm_go NX' storm M now g k).1
  | 0, _ => ⟨hD, hav, rfl⟩
  | k + 1, hk => by
    obtain ⟨i1, i2, i3⟩ := zy_go hn hM hNX hlt hnow hok hD hav k (by omega)
    obtain ⟨j1, j2, j3⟩ := zy_row (storm := storm) hn hM hNX hlt (now := now + k) (c := (zm_go NX' storm M now g k).1) (by omega) (zd_go_ok hn (fun h to t hh => hlt h to t hh) hok k) i1 i2 M (Nat.le_refl M)
    refine ⟨j1, j2, ?_⟩
    show zd_cnt (zd_row NX Tg storm (now + k) (zd_go NX Tg storm M now st k) M).2.1 M = zd_cnt st.2.1 M + (zm_rw8 NX' storm (now + k) (zm_go NX' storm M now g k).1 (zm_go NX' storm M now g k).2 M).1
    omega
end

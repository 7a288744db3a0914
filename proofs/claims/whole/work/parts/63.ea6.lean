/-! The law told: the class's codes, run, give what the reference works out. -/
section EA6
variable {C X : Nat → Nat} {sz : Nat} {nm : Nat → Int32}
/-- codes that lie from a place on -/
def zl_lies (C X : Nat → Nat) (o : Nat) (l : zy_L) : Prop := ∀ i x, l[i]? = some x → C (o + i) = x.1 ∧ X (o + i) = x.2
theorem zl_lies_c {o : Nat} {x : Nat × Nat} {l : zy_L} (h : zl_lies C X o (x :: l)) : (C o = x.1 ∧ X o = x.2) ∧ zl_lies C X (o + 1) l :=
  ⟨h 0 x rfl, fun i y hy => by
    have h1 := h (i + 1) y hy
    rwa [show o + (i + 1) = o + 1 + i by omega] at h1⟩
theorem zl_lies_app {o : Nat} {l k : zy_L} (h : zl_lies C X o (l ++ k)) : zl_lies C X o l ∧ zl_lies C X (o + l.length) k :=
  ⟨fun i x hx => h i x (by rw [List.getElem?_append_left (List.getElem?_eq_some_iff.mp hx).1]; exact hx), fun i x hx => by
    have h1 := h (l.length + i) x (by rw [List.getElem?_append_right (Nat.le_add_right _ _), Nat.add_sub_cancel_left]; exact hx)
    rwa [show o + (l.length + i) = o + l.length + i by omega] at h1⟩
theorem zl_run_l : ∀ (l : zy_L) (o f : Nat) (st : List Int32) (h' : Nat), zl_lies C X o l → zy_gl l → zy_sh l st.length h' → o + l.length ≤ sz → st.length + l.length ≤ 128 → l.length ≤ f →
    zl_run C X sz nm f o st = zl_run C X sz nm (f - l.length) (o + l.length) (zy_fd (zm_em nm) l st) ∧ (zy_fd (zm_em nm) l st).length = h'
  | [], o, f, st, h', _, _, hs, _, _, _ => ⟨rfl, Eq.symm hs⟩
  | x :: r, o, f, st, h', hl, hg, hs, hz, h128, hf => by
    obtain ⟨⟨c1, c2⟩, hl2⟩ := zl_lies_c hl
    have hg1 := hg x List.mem_cons_self
    have hg2 : zy_gl r := fun y hy => hg y (List.mem_cons_of_mem _ hy)
    simp only [List.length_cons] at hz h128 hf ⊢
    obtain ⟨f, rfl⟩ : ∃ f0, f = f0 + 1 := ⟨f - 1, by omega⟩
    have key : ∀ st2 : List Int32, zl_run C X sz nm (f + 1) o st = zl_run C X sz nm f (o + 1) st2 → zm_em nm x.1 x.2 st = st2 → zy_sh r st2.length h' → st2.length ≤ st.length + 1 →
        zl_run C X sz nm (f + 1) o st = zl_run C X sz nm (f + 1 - (r.length + 1)) (o + (r.length + 1)) (zy_fd (zm_em nm) (x :: r) st) ∧ (zy_fd (zm_em nm) (x :: r) st).length = h' := fun st2 e1 e2 e3 e4 => by
      have q := zl_run_l r (o + 1) f st2 h' hl2 hg2 e3 (by omega) (by omega) (by omega)
      have e9 : zy_fd (zm_em nm) (x :: r) st = zy_fd (zm_em nm) r st2 := by rw [← e2]; rfl
      rw [e9, e1, q.1, show f + 1 - (r.length + 1) = f - r.length by omega, show o + (r.length + 1) = o + 1 + r.length by omega]
      exact ⟨rfl, q.2⟩
    simp only [zy_sh] at hs
    have hi : o < sz := by omega
    by_cases h1 : x.1 = 1 ∨ x.1 = 2
    · rw [if_pos h1] at hs
      refine key ((if x.1 = 1 then nI x.2 else nm x.2) :: st) ?_ ?_ hs (Nat.le_refl _)
      · simp only [zl_run]
        rw [if_pos hi, c1, c2, if_pos h1, if_neg (by omega)]
      · unfold zm_em
        by_cases h2 : x.1 = 1
        · rw [if_pos h2, if_pos h2]
        · rw [if_neg h2, if_neg h2, if_pos (h1.resolve_left h2)]
    · rw [if_neg h1] at hs
      have h1a : ¬ x.1 = 1 := fun q => h1 (Or.inl q)
      have h1b : ¬ x.1 = 2 := fun q => h1 (Or.inr q)
      by_cases h5 : x.1 = 5 ∨ x.1 = 6
      · rw [if_pos h5] at hs
        obtain ⟨y, r0, rfl⟩ : ∃ y r0, st = y :: r0 := by
          cases st with
          | nil => exact absurd hs.1 (by simp)
          | cons y r0 => exact ⟨y, r0, rfl⟩
        refine key (zl_op x.1 y y :: r0) ?_ ?_ hs.2 (Nat.le_succ _)
        · simp only [zl_run]
          rw [if_pos hi, c1, if_neg h1, if_neg hg1.2.1, if_neg hg1.1, if_pos h5.symm]
        · unfold zm_em
          rw [if_neg h1a, if_neg h1b]
          simp only
          rw [if_pos h5.symm]
      · rw [if_neg h5] at hs
        obtain ⟨y, x0, r0, rfl⟩ : ∃ y x0 r0, st = y :: x0 :: r0 := by
          cases st with
          | nil => exact absurd hs.1 (by simp)
          | cons y r1 =>
            cases r1 with
            | nil => exact absurd hs.1 (by simp)
            | cons x0 r0 => exact ⟨y, x0, r0, rfl⟩
        have h6 : ¬ (x.1 = 6 ∨ x.1 = 5) := fun q => h5 q.symm
        refine key (zl_op x.1 x0 y :: r0) ?_ ?_ hs.2 (by simp only [List.length_cons]; omega)
        · simp only [zl_run]
          rw [if_pos hi, c1, if_neg h1, if_neg hg1.2.1, if_neg hg1.1, if_neg h6]
        · unfold zm_em
          rw [if_neg h1a, if_neg h1b]
          simp only
          rw [if_neg h6]
/-- a line's codes: of a guard, if there is one, and what it gives -/
def zl_bk (o : Nat) (G : Option zy_L) (l : zy_L) : zy_L := match G with | none => l ++ [(4, 0)] | some g => g ++ ((3, o + g.length + l.length + 2) :: (l ++ [(4, 0)]))
def zl_gh (nm : Nat → Int32) (G : Option zy_L) : Bool := match G with | none => true | some g => decide (¬ zm_top (zy_fd (zm_em nm) g []) = 0)
def zl_go1 (l : zy_L) : Prop := (∀ h, zy_sh l h (h + 1)) ∧ zy_gl l
def zl_goG (G : Option zy_L) : Prop := match G with | none => True | some g => zl_go1 g
theorem zl_one {l : List Int32} (h : l.length = 1) : l = [zm_top l] := by
  cases l with
  | nil => exact absurd h (by decide)
  | cons y r =>
    cases r with
    | nil => rfl
    | cons z r => exact absurd h (by simp)
theorem zl_give {o f : Nat} {l : zy_L} (hl : zl_lies C X o (l ++ [(4, 0)])) (hg : zl_go1 l) (hz : o + (l.length + 1) ≤ sz) (h128 : sz ≤ 128) (hf : l.length + 1 ≤ f) : zl_run C X sz nm f o [] = zm_top (zy_fd (zm_em nm) l []) := by
  obtain ⟨h1, h2⟩ := zl_lies_app hl
  obtain ⟨q1, q2⟩ := zl_run_l (sz := sz) (nm := nm) l o f [] 1 h1 hg.2 (hg.1 0) (by omega) (by simp only [List.length_nil]; omega) (by omega)
  have c4 := (zl_lies_c h2).1.1
  rw [q1, zl_one q2]
  obtain ⟨f0, e⟩ : ∃ f0, f - l.length = f0 + 1 := ⟨f - l.length - 1, by omega⟩
  rw [e]
  simp only [zl_run]
  rw [if_pos (by omega), c4, if_neg (by decide), if_pos rfl]
  rfl
theorem zl_blk {o f : Nat} {G : Option zy_L} {l : zy_L} (hl : zl_lies C X o (zl_bk o G l)) (hG : zl_goG G) (hg : zl_go1 l) (hz : o + (zl_bk o G l).length ≤ sz) (h128 : sz ≤ 128) (hf : (zl_bk o G l).length ≤ f) :
    ∃ f9, f ≤ f9 + (zl_bk o G l).length ∧ zl_run C X sz nm f o [] = if zl_gh nm G = true then zm_top (zy_fd (zm_em nm) l []) else zl_run C X sz nm f9 (o + (zl_bk o G l).length) [] := by
  cases G with
  | none =>
    have e : (zl_bk o none l).length = l.length + 1 := by simp [zl_bk]
    rw [e] at hz hf
    exact ⟨f, Nat.le_add_right _ _, by rw [if_pos (by rfl)]; exact zl_give hl hg hz h128 hf⟩
  | some gd =>
    have e : (zl_bk o (some gd) l).length = gd.length + l.length + 2 := by simp [zl_bk]; omega
    rw [e] at hz hf ⊢
    obtain ⟨h1, h2⟩ := zl_lies_app hl
    obtain ⟨⟨c3, x3⟩, h3⟩ := zl_lies_c h2
    obtain ⟨q1, q2⟩ := zl_run_l (sz := sz) (nm := nm) gd o f [] 1 h1 hG.2 (hG.1 0) (by omega) (by simp only [List.length_nil]; omega) (by omega)
    obtain ⟨f0, ef⟩ : ∃ f0, f - gd.length = f0 + 1 := ⟨f - gd.length - 1, by omega⟩
    refine ⟨f0, by omega, ?_⟩
    rw [q1, zl_one q2, ef]
    simp only [zl_run]
    rw [if_pos (by omega), c3, x3, if_neg (by simp)]
    simp only
    rw [if_neg (by simp), if_pos (by simp)]
    by_cases h0 : zm_top (zy_fd (zm_em nm) gd []) = 0
    · rw [if_pos h0, if_neg (by simp [zl_gh, h0])]
      rw [show max (o + gd.length) (o + gd.length + l.length + 2 - 1) + 1 = o + (gd.length + l.length + 2) by omega]
    · rw [if_neg h0, if_pos (by simp [zl_gh, h0])]
      exact zl_give h3 hg (by omega) h128 (by omega)
/-! What holds codes. -/
def zl_hd (s : zg_S) (l : zy_L) : Prop := s.1 = l.length ∧ zl_lies s.2.1 s.2.2 0 l
theorem zl_hd_em {s : zg_S} {l : zy_L} (h : zl_hd s l) (hl : l.length < 128) (c v : Nat) : zl_hd (zg_em c v s) (l ++ [(c, v)]) := by
  unfold zg_em
  rw [if_pos (by rw [h.1]; exact hl)]
  refine ⟨by simp [h.1], fun i x hx => ?_⟩
  by_cases hi : i < l.length
  · rw [List.getElem?_append_left hi] at hx
    have h1 := h.2 i x hx
    simp only [zs_up, h.1]
    rw [if_neg (by omega), if_neg (by omega)]
    exact h1
  · rw [List.getElem?_append_right (by omega)] at hx
    have h0 := (List.getElem?_eq_some_iff.mp hx).1
    simp only [List.length_cons, List.length_nil] at h0
    have e : i = l.length := by omega
    subst e
    rw [Nat.sub_self] at hx
    have e2 : (c, v) = x := Option.some.inj hx
    subst e2
    simp only [zs_up, h.1]
    rw [if_pos (by omega), if_pos (by omega)]
    exact ⟨rfl, rfl⟩
theorem zl_hd_fd : ∀ (k : zy_L) (s : zg_S) (l : zy_L), zl_hd s l → l.length + k.length ≤ 128 → zl_hd (zy_fd zg_em k s) (l ++ k)
  | [], s, l, h, _ => by rw [List.append_nil]; exact h
  | x :: k, s, l, h, hl => by
    simp only [List.length_cons] at hl
    have h1 := zl_hd_fd k (zg_em x.1 x.2 s) (l ++ [x]) (zl_hd_em h (by omega) x.1 x.2) (by simp only [List.length_append, List.length_cons, List.length_nil]; omega)
    rw [List.append_assoc] at h1
    exact h1
theorem zl_hd_pt {s : zg_S} {l k : zy_L} {v : Nat} (h : zl_hd s (l ++ (3, v) :: k)) (hl : l.length < 128) : zl_hd (zg_pt l.length s) (l ++ (3, s.1) :: k) := by
  unfold zg_pt
  rw [if_pos hl]
  refine ⟨by rw [h.1]; simp, fun i x hx => ?_⟩
  by_cases hi : i < l.length
  · rw [List.getElem?_append_left hi] at hx
    have h1 := h.2 i x (by rw [List.getElem?_append_left hi]; exact hx)
    simp only [zs_up]
    rw [if_neg (by omega)]
    exact h1
  · rw [List.getElem?_append_right (by omega)] at hx
    by_cases h0 : i = l.length
    · subst h0
      rw [Nat.sub_self] at hx
      have e2 : (3, s.1) = x := Option.some.inj hx
      subst e2
      have h1 := h.2 l.length (3, v) (by rw [List.getElem?_append_right (Nat.le_refl _), Nat.sub_self]; rfl)
      simp only [zs_up]
      rw [if_pos (by omega)]
      exact ⟨h1.1, rfl⟩
    · obtain ⟨j, hj⟩ : ∃ j, i - l.length = j + 1 := ⟨i - l.length - 1, by omega⟩
      rw [hj] at hx
      have h1 := h.2 i x (by rw [List.getElem?_append_right (by omega), hj]; exact hx)
      simp only [zs_up]
      rw [if_neg (by omega)]
      exact h1
end EA6
section EA6b
variable {tp : Nat → Nat} {ln : Nat} {σ : Type} {em : Nat → Nat → σ → σ}
/-! No letter is taken behind the text's end. -/
def zl_b (ln p : Nat) (r : zg_R σ) : Prop := match r with | .inl _ => True | .inr q => q.1 ≤ max p ln
theorem zl_c0 {p c : Nat} (h : zg_c tp ln p = c) (hc : c ≠ 0) : p < ln := Decidable.byContradiction (fun q => hc (h.symm.trans (if_neg q)))
theorem zl_b_num : ∀ f p v, (zg_num tp ln f p v).1 ≤ max p ln
  | 0, p, v => Nat.le_max_left _ _
  | f + 1, p, v => by
    simp only [zg_num]
    by_cases h : 48 ≤ zg_c tp ln p ∧ zg_c tp ln p ≤ 57
    · rw [if_pos h]
      have h1 := zl_c0 (tp := tp) (ln := ln) (p := p) rfl (by omega)
      have h2 := zl_b_num f (p + 1) (v * 10 + zg_c tp ln p - 48)
      omega
    · rw [if_neg h]; exact Nat.le_max_left _ _
theorem zl_b_lp {lev : Nat} (hlev : lev < 5) {part : Nat → σ → zg_R σ} (hp : ∀ p s, zl_b ln p (part p s)) : ∀ f p s, zl_b ln p (zg_lp tp ln em part lev f p s)
  | 0, p, s => Nat.le_max_left _ _
  | f + 1, p, s => by
    simp only [zg_lp]
    by_cases h : zg_lev (zg_c tp ln p) = lev
    · rw [if_pos h]
      have h1 : p < ln := zl_c0 (tp := tp) rfl (fun q => by rw [q, show zg_lev 0 = 9 from rfl] at h; omega)
      have h2 := hp (p + 1) s
      cases e : part (p + 1) s with
      | inl e9 => trivial
      | inr r =>
        rw [e] at h2
        have h3 := zl_b_lp hlev hp f r.1 (em (zg_c tp ln p) 0 r.2)
        simp only
        generalize zg_lp tp ln em part lev f r.1 (em (zg_c tp ln p) 0 r.2) = R at h3
        cases R with
        | inl _ => trivial
        | inr q =>
          have h4 : r.1 ≤ max (p + 1) ln := h2
          have h5 : q.1 ≤ max r.1 ln := h3
          show q.1 ≤ max p ln
          omega
    · rw [if_neg h]; exact Nat.le_max_left _ _
theorem zl_b_zg : ∀ d lev op p (s : σ), zl_b ln p (zg tp ln em d lev op p s)
  | 0, _, _, _, _ => trivial
  | d + 1, lev, op, p, s => by
    simp only [zg]
    by_cases h1 : lev < 5
    · rw [if_pos h1]
      have h2 := zl_b_zg d (lev + 1) op p s
      cases e : zg tp ln em d (lev + 1) op p s with
      | inl e9 => trivial
      | inr r =>
        rw [e] at h2
        have h3 := zl_b_lp (tp := tp) (em := em) (lev := lev) h1 (fun p s => zl_b_zg d (lev + 1) op p s) (if lev = 2 then 1 else 120) r.1 r.2
        simp only
        generalize zg_lp tp ln em (zg tp ln em d (lev + 1) op) lev (if lev = 2 then 1 else 120) r.1 r.2 = R at h3
        cases R with
        | inl _ => trivial
        | inr q =>
          have h4 : r.1 ≤ max p ln := h2
          have h5 : q.1 ≤ max r.1 ln := h3
          show q.1 ≤ max p ln
          omega
    · rw [if_neg h1]
      by_cases h2 : 48 ≤ zg_c tp ln p ∧ zg_c tp ln p ≤ 57
      · rw [if_pos h2]; exact zl_b_num 4 p 0
      · rw [if_neg h2]
        by_cases h3 : zg_nam (zg_c tp ln p) < 6
        · rw [if_pos h3]
          have h4 : p < ln := zl_c0 (tp := tp) rfl (fun q => by rw [q] at h3; exact absurd h3 (by decide))
          show p + 1 ≤ max p ln
          omega
        · rw [if_neg h3]
          by_cases h4 : 6 ≤ op ∨ ¬ (zg_c tp ln p = 40 ∨ zg_c tp ln p = 33 ∨ zg_c tp ln p = 45)
          · rw [if_pos h4]; trivial
          · rw [if_neg h4]
            have h5 : p < ln := zl_c0 (tp := tp) rfl (fun q => by rw [q] at h4; exact h4 (Or.inr (by decide)))
            by_cases h6 : zg_c tp ln p = 40
            · rw [if_pos h6]
              have h7 := zl_b_zg d 0 (op + 1) (p + 1) s
              cases e : zg tp ln em d 0 (op + 1) (p + 1) s with
              | inl e9 => trivial
              | inr r =>
                rw [e] at h7
                have h8 : r.1 ≤ max (p + 1) ln := h7
                simp only
                by_cases h9 : zg_c tp ln r.1 = 41
                · rw [if_pos h9]
                  have := zl_c0 h9 (by decide)
                  show r.1 + 1 ≤ max p ln
                  omega
                · rw [if_neg h9]; trivial
            · rw [if_neg h6]
              have h7 := zl_b_zg d 5 (op + 1) (p + 1) s
              cases e : zg tp ln em d 5 (op + 1) (p + 1) s with
              | inl e9 => trivial
              | inr r =>
                rw [e] at h7
                have h8 : r.1 ≤ max (p + 1) ln := h7
                show r.1 ≤ max p ln
                omega
end EA6b
section EA6c
variable {tp : Nat → Nat} {ln : Nat}
abbrev zl_E (tp : Nat → Nat) (ln p : Nat) : zg_R zy_L := zg tp ln zy_fl 42 0 0 p []
theorem zl_homE {σ : Type} {em : Nat → Nat → σ → σ} (p : Nat) (s : σ) : zg tp ln em 42 0 0 p s = zy_mp (fun l => zy_fd em l s) (zl_E tp ln p) := zy_hom 42 0 0 p s
theorem zl_E_ok {p : Nat} {r : Nat × zy_L} (hp : p ≤ ln) (h : zl_E tp ln p = .inr r) : p < r.1 ∧ r.1 ≤ ln ∧ r.2.length ≤ r.1 - p ∧ zl_go1 r.2 := by
  have h1 : zy_ex p (zl_E tp ln p) := zy_zg_P (tp := tp) (ln := ln) 42 0 0 p (by decide)
  have h2 : zl_b ln p (zl_E tp ln p) := zl_b_zg (tp := tp) (ln := ln) (em := zy_fl) 42 0 0 p []
  rw [h] at h1 h2
  have h3 : r.1 ≤ max p ln := h2
  exact ⟨h1.1, by omega, h1.2.1, h1.2.2.1, h1.2.2.2⟩
/-- a line as it is read -/
def zl_ln (tp : Nat → Nat) (ln p : Nat) : Nat ⊕ (Nat × Option zy_L × zy_L) :=
  match zl_E tp ln p with
  | .inl e => .inl e
  | .inr r => if zg_c tp ln r.1 = 63 then (match zl_E tp ln (r.1 + 1) with | .inl e => .inl e | .inr q => .inr (q.1, some r.2, q.2)) else .inr (r.1, none, r.2)
theorem zl_ln_m (nm : Nat → Int32) (p : Nat) : zm_line tp ln nm p = match zl_ln tp ln p with | .inl e => .inl e | .inr q => .inr (q.1, zl_gh nm q.2.1, zm_top (zy_fd (zm_em nm) q.2.2 [])) := by
  unfold zm_line zl_ln
  rw [zl_homE p]
  cases zl_E tp ln p with
  | inl e => rfl
  | inr r =>
    simp only [zy_mp]
    by_cases h : zg_c tp ln r.1 = 63
    · rw [if_pos h, if_pos h, zl_homE (r.1 + 1)]
      cases zl_E tp ln (r.1 + 1) with
      | inl e => rfl
      | inr q => rfl
    · rw [if_neg h, if_neg h]; rfl
theorem zl_ln_ok {p : Nat} {q : Nat × Option zy_L × zy_L} (hp : p ≤ ln) (h : zl_ln tp ln p = .inr q) (o : Nat) : p < q.1 ∧ q.1 ≤ ln ∧ (zl_bk o q.2.1 q.2.2).length ≤ q.1 - p + 1 ∧ zl_goG q.2.1 ∧ zl_go1 q.2.2 := by
  unfold zl_ln at h
  cases e : zl_E tp ln p with
  | inl e9 => rw [e] at h; exact absurd h (by simp)
  | inr r =>
    rw [e] at h
    obtain ⟨h1, h2, h3, h4⟩ := zl_E_ok hp e
    simp only at h
    by_cases h5 : zg_c tp ln r.1 = 63
    · rw [if_pos h5] at h
      have h6 := zl_c0 h5 (by decide)
      cases e2 : zl_E tp ln (r.1 + 1) with
      | inl e9 => rw [e2] at h; exact absurd h (by simp)
      | inr w =>
        rw [e2] at h
        obtain ⟨w1, w2, w3, w4⟩ := zl_E_ok (by omega) e2
        have e3 : (w.1, some r.2, w.2) = q := Sum.inr.inj h
        subst e3
        refine ⟨by show p < w.1; omega, w2, ?_, h4, w4⟩
        simp only [zl_bk, List.length_append, List.length_cons, List.length_nil]
        omega
    · rw [if_neg h5] at h
      have e3 : (r.1, none, r.2) = q := Sum.inr.inj h
      subst e3
      refine ⟨h1, h2, ?_, trivial, h4⟩
      simp only [zl_bk, List.length_append, List.length_cons, List.length_nil]
      omega
theorem zl_ln_c {p : Nat} {s : zg_S} {l0 : zy_L} (hp : p ≤ ln) (h : zl_hd s l0) (hb : l0.length + (ln - p) + 1 ≤ 128) :
    match zl_ln tp ln p with | .inl e => zg_line tp ln p s = .inl e | .inr q => ∃ s1, zg_line tp ln p s = .inr (q.1, s1) ∧ zl_hd s1 (l0 ++ zl_bk l0.length q.2.1 q.2.2) := by
  unfold zl_ln zg_line
  rw [zl_homE p]
  cases e : zl_E tp ln p with
  | inl e9 => rfl
  | inr r =>
    obtain ⟨h1, h2, h3, h4⟩ := zl_E_ok hp e
    simp only [zy_mp]
    have hr := zl_hd_fd r.2 s l0 h (by omega)
    by_cases h5 : zg_c tp ln r.1 = 63
    · rw [if_pos h5, if_pos h5, zl_homE (r.1 + 1)]
      have h6 := zl_c0 h5 (by decide)
      cases e2 : zl_E tp ln (r.1 + 1) with
      | inl e9 => rfl
      | inr w =>
        obtain ⟨w1, w2, w3, w4⟩ := zl_E_ok (by omega) e2
        simp only [zy_mp]
        have hr2 := zl_hd_em hr (by rw [List.length_append]; omega) 3 0
        have hr3 := zl_hd_fd w.2 _ _ hr2 (by simp only [List.length_append, List.length_cons, List.length_nil]; omega)
        have hr4 := zl_hd_em hr3 (by simp only [List.length_append, List.length_cons, List.length_nil]; omega) 4 0
        have e9 : l0 ++ r.2 ++ [(3, 0)] ++ w.2 ++ [(4, 0)] = (l0 ++ r.2) ++ (3, 0) :: (w.2 ++ [(4, 0)]) := by simp
        rw [e9] at hr4
        have hr5 := zl_hd_pt hr4 (by rw [List.length_append]; omega)
        refine ⟨_, rfl, ?_⟩
        have e10 : (zy_fd zg_em r.2 s).1 = (l0 ++ r.2).length := hr.1
        have e11 : (zg_em 4 0 (zy_fd zg_em w.2 (zg_em 3 0 (zy_fd zg_em r.2 s)))).1 = l0.length + r.2.length + w.2.length + 2 := by
          rw [hr4.1]; simp only [List.length_append, List.length_cons, List.length_nil]; omega
        rw [e10]
        rw [e11] at hr5
        simp only [zl_bk]
        rw [← List.append_assoc]
        exact hr5
    · rw [if_neg h5, if_neg h5]
      refine ⟨_, rfl, ?_⟩
      have hr4 := zl_hd_em hr (by rw [List.length_append]; omega) 4 0
      rw [List.append_assoc] at hr4
      exact hr4
/-- lines from one on, as the class reads them -/
def zl_cL (tp : Nat → Nat) (ln f p : Nat) (s : zg_S) : zg_R zg_S := match zg_line tp ln p s with | .inl e => .inl e | .inr r => zg_lines tp ln f r.1 r.2
theorem zl_cL_s (f p : Nat) (s : zg_S) : zg_lines tp ln (f + 1) p s = if zg_c tp ln p = 59 then zl_cL tp ln f (p + 1) s else .inr (p, s) := rfl
def zl_gc (l : zy_L) : Prop := ∀ x ∈ l, x.1 < 256 ∧ x.2 < 10000 ∧ (x.1 = 2 → x.2 < 6)
def zl_pre (nm : Nat → Int32) (l0 : zy_L) (gv : Bool) (z : Int32) : Prop := (gv = false → z = nI 0) ∧ ∀ (C X : Nat → Nat) (sz : Nat), zl_lies C X 0 l0 → l0.length ≤ sz → sz ≤ 128 → ∃ f9, sz + 1 ≤ f9 + l0.length ∧ zl_run C X sz nm (sz + 1) 0 [] = if gv = true then z else zl_run C X sz nm f9 l0.length []
theorem zl_pre_s {nm : Nat → Int32} {l0 l : zy_L} {G : Option zy_L} {gv : Bool} {z : Int32} (h : zl_pre nm l0 gv z) (hG : zl_goG G) (hl : zl_go1 l) : zl_pre nm (l0 ++ zl_bk l0.length G l) (gv || zl_gh nm G) (if (zl_gh nm G && !gv) = true then zm_top (zy_fd (zm_em nm) l []) else z) := by
  refine ⟨fun h1 => ?_, fun C X sz h1 h2 h3 => ?_⟩
  · have h2 : gv = false ∧ zl_gh nm G = false := Bool.or_eq_false_iff.mp h1
    rw [h2.2, Bool.false_and, if_neg (by decide)]
    exact h.1 h2.1
  · obtain ⟨q1, q2⟩ := zl_lies_app h1
    rw [Nat.zero_add] at q2
    rw [List.length_append] at h2
    obtain ⟨f9, e1, e2⟩ := h.2 C X sz q1 (by omega) h3
    obtain ⟨f8, e3, e4⟩ := zl_blk (nm := nm) (f := f9) q2 hG hl h2 h3 (by omega)
    refine ⟨f8, by rw [List.length_append]; omega, ?_⟩
    rw [e2, List.length_append]
    cases gv with
    | true => rw [if_pos rfl, Bool.true_or, if_pos rfl, Bool.not_true, Bool.and_false, if_neg (by decide)]
    | false =>
      rw [if_neg (by decide), e4, Bool.not_false, Bool.and_true, Bool.false_or]
      cases zl_gh nm G with
      | true => rfl
      | false => rfl
theorem zl_gc_bk {o : Nat} {G : Option zy_L} {l : zy_L} (ho : o + (zl_bk o G l).length ≤ 128) (hG : zl_goG G) (hl : zl_go1 l) : zl_gc (zl_bk o G l) := by
  have h4 : ∀ x ∈ l ++ [(4, 0)], x.1 < 256 ∧ x.2 < 10000 ∧ (x.1 = 2 → x.2 < 6) := fun x hx => by
    rcases List.mem_append.mp hx with h | h
    · exact ⟨(hl.2 x h).2.2.1, (hl.2 x h).2.2.2.1, (hl.2 x h).2.2.2.2⟩
    · rw [List.mem_singleton] at h; subst h; exact ⟨by decide, by decide, fun q => absurd q (by decide)⟩
  cases G with
  | none => exact h4
  | some g =>
    intro x hx
    simp only [zl_bk, List.length_append, List.length_cons, List.length_nil] at ho
    rcases List.mem_append.mp hx with h | h
    · exact ⟨(hG.2 x h).2.2.1, (hG.2 x h).2.2.2.1, (hG.2 x h).2.2.2.2⟩
    · rcases List.mem_cons.mp h with h | h
      · subst h; exact ⟨by show 3 < 256; decide, by show _ < 10000; omega, fun q => absurd q (by simp)⟩
      · exact h4 x h
theorem zl_main (nm : Nat → Int32) (hln : ln ≤ 120) : ∀ (g f p : Nat) (s : zg_S) (l0 : zy_L) (gv : Bool) (z : Int32), zl_hd s l0 → l0.length ≤ p → p ≤ ln → ln ≤ p + f + 1 → ln ≤ p + g → zl_gc l0 → zl_pre nm l0 gv z →
    match zm_lns tp ln nm (g + 1) p gv z with
    | .inl e => zl_cL tp ln f p s = .inl e
    | .inr q => ∃ s1 l1 gv1, zl_cL tp ln f p s = .inr (q.1, s1) ∧ zl_hd s1 l1 ∧ 0 < l1.length ∧ l1.length ≤ 121 ∧ zl_gc l1 ∧ zl_pre nm l1 gv1 q.2
  | g, f, p, s, l0, gv, z, hs, h0, hp, hf, hg, hc, hpre => by
    have hline := zl_ln_c (tp := tp) hp hs (by omega)
    simp only [zm_lns, zl_cL]
    rw [zl_ln_m]
    cases e : zl_ln tp ln p with
    | inl e9 => rw [e] at hline; simp only at hline ⊢; rw [hline]
    | inr q =>
      rw [e] at hline
      obtain ⟨s1, k1, k2⟩ := hline
      obtain ⟨b1, b2, b3, b4, b5⟩ := zl_ln_ok hp e l0.length
      simp only
      rw [k1]
      simp only
      have hc1 : zl_gc (l0 ++ zl_bk l0.length q.2.1 q.2.2) := fun x hx => (List.mem_append.mp hx).elim (hc x) (zl_gc_bk (by omega) b4 b5 x)
      have hp1 := zl_pre_s hpre b4 b5
      have hlen : (l0 ++ zl_bk l0.length q.2.1 q.2.2).length ≤ q.1 + 1 := by rw [List.length_append]; omega
      have hpos : 0 < (l0 ++ zl_bk l0.length q.2.1 q.2.2).length := by
        rw [List.length_append]
        have : 0 < (zl_bk l0.length q.2.1 q.2.2).length := by
          cases q.2.1 <;> simp only [zl_bk, List.length_append, List.length_cons, List.length_nil] <;> omega
        omega
      by_cases h5 : zg_c tp ln q.1 = 59
      · rw [if_pos h5]
        have h6 := zl_c0 h5 (by decide)
        obtain ⟨f0, rfl⟩ : ∃ f0, f = f0 + 1 := ⟨f - 1, by omega⟩
        obtain ⟨g0, rfl⟩ : ∃ g0, g = g0 + 1 := ⟨g - 1, by omega⟩
        rw [zl_cL_s, if_pos h5]
        exact zl_main nm hln g0 f0 (q.1 + 1) s1 _ _ _ k2 hlen (by omega) (by omega) (by omega) hc1 hp1
      · rw [if_neg h5]
        refine ⟨s1, _, _, ?_, k2, hpos, by omega, hc1, hp1⟩
        cases f with
        | zero => rfl
        | succ f0 => rw [zl_cL_s, if_neg h5]
theorem zl_law (hln : ln ≤ 120) (CN XN : Nat → Nat) : (∀ e, zg_read tp ln CN XN = .inl e → ∀ nm, zm_wo tp ln nm = .inl e) ∧
    (∀ q, zg_read tp ln CN XN = .inr q → 0 < q.2.1 ∧ zl_wf q.2.2.1 q.2.2.2 q.2.1 ∧ ∀ nm, zm_wo tp ln nm = .inr (zl_ev q.2.2.1 q.2.2.2 q.2.1 nm)) := by
  have hr : zg_read tp ln CN XN = match zl_cL tp ln 119 0 (0, CN, XN) with | .inl e => .inl e | .inr q => if q.1 < ln then .inl q.1 else .inr q := by
    unfold zg_read zl_cL
    cases zg_line tp ln 0 (0, CN, XN) with
    | inl e => rfl
    | inr r => rfl
  have hm : ∀ nm, _ := fun nm => zl_main (tp := tp) nm hln 121 119 0 (0, CN, XN) [] false (nI 0) ⟨rfl, fun i x hx => absurd hx (by simp)⟩ (Nat.le_refl 0) (Nat.zero_le _) (by omega) (by omega) (fun x hx => absurd hx List.not_mem_nil)
    ⟨fun _ => rfl, fun C X sz _ _ _ => ⟨sz + 1, Nat.le_add_right _ _, by rw [if_neg (by decide)]; rfl⟩⟩
  have hw : ∀ nm, zm_wo tp ln nm = match zm_lns tp ln nm 122 0 false (nI 0) with | .inl e => .inl e | .inr q => if q.1 < ln then .inl q.1 else .inr q.2 := fun nm => rfl
  rw [hr]
  refine ⟨fun e he nm => ?_, fun q hq => ?_⟩
  · have h := hm nm
    rw [hw nm]
    cases e1 : zm_lns tp ln nm 122 0 false (nI 0) with
    | inl e2 =>
      rw [e1] at h
      simp only at h
      rw [h] at he
      simp only at he ⊢
      rw [Sum.inl.inj he]
    | inr r =>
      rw [e1] at h
      obtain ⟨s1, l1, gv1, h1, -⟩ := h
      rw [h1] at he
      simp only at he ⊢
      by_cases h2 : r.1 < ln
      · rw [if_pos h2] at he ⊢; rw [Sum.inl.inj he]
      · rw [if_neg h2] at he; exact absurd he (by simp)
  · have hall : ∀ nm, 0 < q.2.1 ∧ zl_wf q.2.2.1 q.2.2.2 q.2.1 ∧ zm_wo tp ln nm = .inr (zl_ev q.2.2.1 q.2.2.2 q.2.1 nm) := fun nm => by
      have h := hm nm
      rw [hw nm]
      cases e1 : zm_lns tp ln nm 122 0 false (nI 0) with
      | inl e2 =>
        rw [e1] at h
        simp only at h
        rw [h] at hq
        exact absurd hq (by simp)
      | inr r =>
        rw [e1] at h
        obtain ⟨s1, l1, gv1, h1, h2, h3, h4, h5, h6, h7⟩ := h
        rw [h1] at hq
        simp only at hq ⊢
        by_cases h8 : r.1 < ln
        · rw [if_pos h8] at hq; exact absurd hq (by simp)
        · rw [if_neg h8] at hq ⊢
          have e2 : (r.1, s1) = q := Sum.inr.inj hq
          subst e2
          simp only
          obtain ⟨d1, d2⟩ := h2
          refine ⟨by rw [d1]; exact h3, ⟨by rw [d1]; omega, fun i hi => ?_⟩, ?_⟩
          · rw [d1] at hi
            have d3 := d2 i (l1[i]) (List.getElem?_eq_getElem hi)
            rw [Nat.zero_add] at d3
            rw [d3.1, d3.2]
            exact h5 _ (List.getElem_mem hi)
          · obtain ⟨f9, g1, g2⟩ := h7 s1.2.1 s1.2.2 s1.1 d2 (by rw [d1]; exact Nat.le_refl _) (by rw [d1]; omega)
            unfold zl_ev
            rw [g2]
            cases gv1 with
            | true => rfl
            | false =>
              rw [if_neg (by decide), h6 rfl]
              cases f9 with
              | zero => rfl
              | succ f8 => simp only [zl_run]; rw [if_neg (by rw [d1]; exact Nat.lt_irrefl _)]
    exact ⟨(hall (fun _ => 0)).1, (hall (fun _ => 0)).2.1, fun nm => (hall nm).2.2⟩
end EA6c

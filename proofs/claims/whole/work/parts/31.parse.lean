/-! The law's text: one grammar, by how deep it goes; what it makes is handed on step by step. -/
section ZG
variable {σ : Type}
def zg_c (tp : Nat → Nat) (ln p : Nat) : Nat := if p < ln then tp p else 0
def zg_l (tp : Nat → Nat) (ln p : Nat) : Int32 := if p < ln then nI (tp p) else -1
def zg_lev (c : Nat) : Nat := if c = 124 then 0 else if c = 38 then 1 else if c = 60 ∨ c = 61 ∨ c = 62 then 2 else if c = 43 ∨ c = 45 then 3 else if c = 42 ∨ c = 47 ∨ c = 37 then 4 else 9
def zg_nam (c : Nat) : Nat := if c = 100 then 0 else if c = 114 then 1 else if c = 113 then 2 else if c = 104 then 3 else if c = 97 then 4 else if c = 98 then 5 else 9
def zg_num (tp : Nat → Nat) (ln : Nat) : Nat → Nat → Nat → Nat × Nat
  | 0, p, v => (p, v)
  | f + 1, p, v => if 48 ≤ zg_c tp ln p ∧ zg_c tp ln p ≤ 57 then zg_num tp ln f (p + 1) (v * 10 + zg_c tp ln p - 48) else (p, v)
abbrev zg_R (σ : Type) : Type := Nat ⊕ (Nat × σ)
def zg_lp (tp : Nat → Nat) (ln : Nat) (em : Nat → Nat → σ → σ) (part : Nat → σ → zg_R σ) (lev : Nat) : Nat → Nat → σ → zg_R σ
  | 0, p, s => .inr (p, s)
  | f + 1, p, s => if zg_lev (zg_c tp ln p) = lev then (match part (p + 1) s with | .inl e => .inl e | .inr r => zg_lp tp ln em part lev f r.1 (em (zg_c tp ln p) 0 r.2)) else .inr (p, s)
def zg (tp : Nat → Nat) (ln : Nat) (em : Nat → Nat → σ → σ) : Nat → Nat → Nat → Nat → σ → zg_R σ
  | 0, _, _, _, _ => .inl 0
  | d + 1, lev, op, p, s =>
    if lev < 5 then (match zg tp ln em d (lev + 1) op p s with | .inl e => .inl e | .inr r => zg_lp tp ln em (zg tp ln em d (lev + 1) op) lev (if lev = 2 then 1 else 120) r.1 r.2)
    else if 48 ≤ zg_c tp ln p ∧ zg_c tp ln p ≤ 57 then .inr ((zg_num tp ln 4 p 0).1, em 1 (zg_num tp ln 4 p 0).2 s)
    else if zg_nam (zg_c tp ln p) < 6 then .inr (p + 1, em 2 (zg_nam (zg_c tp ln p)) s)
    else if 6 ≤ op ∨ ¬ (zg_c tp ln p = 40 ∨ zg_c tp ln p = 33 ∨ zg_c tp ln p = 45) then .inl p
    else if zg_c tp ln p = 40 then (match zg tp ln em d 0 (op + 1) (p + 1) s with | .inl e => .inl e | .inr r => if zg_c tp ln r.1 = 41 then .inr (r.1 + 1, r.2) else .inl r.1)
    else (match zg tp ln em d 5 (op + 1) (p + 1) s with | .inl e => .inl e | .inr r => .inr (r.1, em (if zg_c tp ln p = 33 then 6 else 5) 0 r.2))
variable {tp : Nat → Nat} {ln : Nat} {em : Nat → Nat → σ → σ}
theorem zg_c_lt {p : Nat} (h : zg_c tp ln p ≠ 0) : p < ln := by
  rcases Nat.lt_or_ge p ln with h1 | h1
  · exact h1
  · exact absurd (if_neg (Nat.not_lt.mpr h1)) h
theorem zg_c_at {p : Nat} (h : p < ln) : zg_c tp ln p = tp p := if_pos h
theorem zg_l_at {p : Nat} (h : p < ln) : zg_l tp ln p = nI (tp p) := if_pos h
theorem zg_l_n {p : Nat} (h : zg_c tp ln p ≠ 0) : zg_l tp ln p = nI (zg_c tp ln p) := by
  have h1 := zg_c_lt h
  rw [zg_l_at h1, zg_c_at h1]
theorem zg_l_ge {p : Nat} (h : ¬ p < ln) : zg_l tp ln p = -1 := if_neg h
theorem zg_c_256 (ht : ∀ i, tp i < 256) (p : Nat) : zg_c tp ln p < 256 := by
  unfold zg_c; split
  · exact ht p
  · decide
theorem zg_l_eq (ht : ∀ i, tp i < 256) {p k : Nat} (hk : k < 256) (hk0 : k ≠ 0) : zg_l tp ln p = nI k ↔ zg_c tp ln p = k := by
  by_cases h : p < ln
  · rw [zg_l_at h, zg_c_at h]; exact nI_eq (by have := ht p; omega) (by omega)
  · rw [zg_l_ge h]
    have e : zg_c tp ln p = 0 := if_neg h
    rw [e]
    constructor
    · intro q; exfalso
      have h1 := congrArg Int32.toInt q
      rw [nI_toInt (by omega)] at h1
      have : (-1 : Int32).toInt = -1 := by decide
      omega
    · intro q; exact absurd q.symm hk0
theorem zg_l_ge48 (ht : ∀ i, tp i < 256) {p : Nat} : (¬ zg_l tp ln p < nI 48) ↔ 48 ≤ zg_c tp ln p := by
  by_cases h : p < ln
  · rw [zg_l_at h, zg_c_at h, nI_ltI (by have := ht p; omega) (by decide)]; omega
  · rw [zg_l_ge h]
    have e : zg_c tp ln p = 0 := if_neg h
    rw [e]
    constructor
    · intro q; exact absurd (by decide : (-1 : Int32) < nI 48) q
    · intro q; omega
theorem zg_l_le57 (ht : ∀ i, tp i < 256) {p : Nat} : zg_l tp ln p ≤ nI 57 ↔ zg_c tp ln p ≤ 57 := by
  by_cases h : p < ln
  · rw [zg_l_at h, zg_c_at h, nI_leI (by have := ht p; omega) (by decide)]
  · rw [zg_l_ge h]
    have e : zg_c tp ln p = 0 := if_neg h
    rw [e]
    exact ⟨fun _ => by omega, fun _ => by decide⟩
def zg_li (x : Int32) : Int32 := if x = nI 124 then nI 0 else if x = nI 38 then nI 1 else if x = nI 60 then nI 2 else if x = nI 61 then nI 2 else if x = nI 62 then nI 2 else if x = nI 43 then nI 3 else if x = nI 45 then nI 3 else if x = nI 42 then nI 4 else if x = nI 47 then nI 4 else if x = nI 37 then nI 4 else -1
def zg_ni (x : Int32) : Int32 := if x = nI 100 then nI 0 else if x = nI 114 then nI 1 else if x = nI 113 then nI 2 else if x = nI 104 then nI 3 else if x = nI 97 then nI 4 else if x = nI 98 then nI 5 else -1
theorem zg_lev_le (c : Nat) : zg_lev c < 5 ∨ zg_lev c = 9 := by
  unfold zg_lev; repeat' split
  all_goals omega
theorem zg_lev_0 {c : Nat} (h : zg_lev c < 5) : c ≠ 0 := fun q => by subst q; revert h; decide
theorem zg_nam_0 {c : Nat} (h : zg_nam c < 6) : c ≠ 0 := fun q => by subst q; revert h; decide
theorem zg_li_n (ht : ∀ i, tp i < 256) {p : Nat} : zg_li (zg_l tp ln p) = if zg_lev (zg_c tp ln p) < 5 then nI (zg_lev (zg_c tp ln p)) else -1 := by
  have k := fun (k : Nat) (h1 : k < 256) (h2 : k ≠ 0) => zg_l_eq (ln := ln) ht (p := p) h1 h2
  unfold zg_li
  simp only [k 124 (by decide) (by decide), k 38 (by decide) (by decide), k 60 (by decide) (by decide), k 61 (by decide) (by decide), k 62 (by decide) (by decide), k 43 (by decide) (by decide), k 45 (by decide) (by decide), k 42 (by decide) (by decide), k 47 (by decide) (by decide), k 37 (by decide) (by decide)]
  generalize zg_c tp ln p = c
  unfold zg_lev
  by_cases h1 : c = 124
  · subst h1; rfl
  by_cases h2 : c = 38
  · subst h2; rfl
  by_cases h3 : c = 60
  · subst h3; rfl
  by_cases h4 : c = 61
  · subst h4; rfl
  by_cases h5 : c = 62
  · subst h5; rfl
  by_cases h6 : c = 43
  · subst h6; rfl
  by_cases h7 : c = 45
  · subst h7; rfl
  by_cases h8 : c = 42
  · subst h8; rfl
  by_cases h9 : c = 47
  · subst h9; rfl
  by_cases h10 : c = 37
  · subst h10; rfl
  simp [h1, h2, h3, h4, h5, h6, h7, h8, h9, h10]
theorem zg_ni_n (ht : ∀ i, tp i < 256) {p : Nat} : zg_ni (zg_l tp ln p) = if zg_nam (zg_c tp ln p) < 6 then nI (zg_nam (zg_c tp ln p)) else -1 := by
  have k := fun (k : Nat) (h1 : k < 256) (h2 : k ≠ 0) => zg_l_eq (ln := ln) ht (p := p) h1 h2
  unfold zg_ni
  simp only [k 100 (by decide) (by decide), k 114 (by decide) (by decide), k 113 (by decide) (by decide), k 104 (by decide) (by decide), k 97 (by decide) (by decide), k 98 (by decide) (by decide)]
  generalize zg_c tp ln p = c
  unfold zg_nam
  by_cases h1 : c = 100
  · subst h1; rfl
  by_cases h2 : c = 114
  · subst h2; rfl
  by_cases h3 : c = 113
  · subst h3; rfl
  by_cases h4 : c = 104
  · subst h4; rfl
  by_cases h5 : c = 97
  · subst h5; rfl
  by_cases h6 : c = 98
  · subst h6; rfl
  simp [h1, h2, h3, h4, h5, h6]
theorem zg_lev_lt {lev : Nat} (hl : lev < 5) (ht : ∀ i, tp i < 256) {p : Nat} : zg_li (zg_l tp ln p) = nI lev ↔ zg_lev (zg_c tp ln p) = lev := by
  rw [zg_li_n ht]
  split
  · exact nI_eq (by omega) (by omega)
  · constructor
    · intro q; exfalso
      have h1 := congrArg Int32.toInt q
      rw [nI_toInt (by omega)] at h1
      have : (-1 : Int32).toInt = -1 := by decide
      omega
    · intro q; omega
theorem zg_num_in (ht : ∀ i, tp i < 256) : ∀ f p v, p ≤ ln → p ≤ (zg_num tp ln f p v).1 ∧ (zg_num tp ln f p v).1 ≤ ln ∧ (zg_num tp ln f p v).2 < (v + 1) * 10 ^ f
  | 0, p, v, h => by simp only [zg_num]; exact ⟨Nat.le_refl _, h, by omega⟩
  | f + 1, p, v, h => by
    simp only [zg_num]; split
    · rename_i h1
      have hp : p < ln := zg_c_lt (tp := tp) (by omega)
      obtain ⟨a, b, c⟩ := zg_num_in ht f (p + 1) (v * 10 + zg_c tp ln p - 48) hp
      refine ⟨by omega, b, Nat.lt_of_lt_of_le c ?_⟩
      rw [Nat.pow_succ, Nat.mul_comm (10 ^ f) 10, ← Nat.mul_assoc]
      exact Nat.mul_le_mul_right _ (by omega)
    · refine ⟨Nat.le_refl _, h, ?_⟩
      have : 1 ≤ 10 ^ (f + 1) := Nat.pow_pos (by decide)
      calc v < v + 1 := Nat.lt_succ_self v
        _ = (v + 1) * 1 := (Nat.mul_one _).symm
        _ ≤ (v + 1) * 10 ^ (f + 1) := Nat.mul_le_mul_left _ this
/-- the place stays in the text -/
def zg_in (ln p : Nat) (r : zg_R σ) : Prop := match r with | .inl e => p ≤ e ∧ e ≤ ln | .inr q => p ≤ q.1 ∧ q.1 ≤ ln
theorem zg_lp_in {part : Nat → σ → zg_R σ} {lev : Nat} (hl : lev < 5) (h : ∀ p s, p ≤ ln → zg_in ln p (part p s)) : ∀ f p s, p ≤ ln → zg_in ln p (zg_lp tp ln em part lev f p s)
  | 0, p, s, hp => ⟨Nat.le_refl p, hp⟩
  | f + 1, p, s, hp => by
    simp only [zg_lp]; split
    · rename_i h1
      have hp1 : p < ln := zg_c_lt (tp := tp) (zg_lev_0 (by omega))
      have h2 := h (p + 1) s hp1
      cases h3 : part (p + 1) s with
      | inl e => rw [h3] at h2; exact ⟨by have := h2.1; omega, h2.2⟩
      | inr r =>
        rw [h3] at h2
        have h4 := zg_lp_in hl h f r.1 (em (zg_c tp ln p) 0 r.2) h2.2
        simp only
        have h5 : p ≤ r.1 := Nat.le_trans (Nat.le_succ p) h2.1
        cases h6 : zg_lp tp ln em part lev f r.1 (em (zg_c tp ln p) 0 r.2) with
        | inl e => rw [h6] at h4; exact ⟨Nat.le_trans h5 h4.1, h4.2⟩
        | inr q => rw [h6] at h4; exact ⟨Nat.le_trans h5 h4.1, h4.2⟩
    · exact ⟨Nat.le_refl p, hp⟩
theorem zg_le (ht : ∀ i, tp i < 256) : ∀ d lev op p s, p ≤ ln → 6 * (7 - op) ≤ d + lev → lev ≤ 5 → op ≤ 6 → zg_in ln p (zg tp ln em d lev op p s)
  | 0, lev, op, p, s, hp, hd, hl, ho => by exfalso; omega
  | d + 1, lev, op, p, s, hp, hd, hl, ho => by
    simp only [zg]; split
    · rename_i h1
      have h2 := zg_le ht d (lev + 1) op p s hp (by omega) (by omega) ho
      cases h3 : zg tp ln em d (lev + 1) op p s with
      | inl e => rw [h3] at h2; exact h2
      | inr r =>
        rw [h3] at h2
        simp only
        have h4 := zg_lp_in (tp := tp) (em := em) (lev := lev) h1 (fun p s hp => zg_le ht d (lev + 1) op p s hp (by omega) (by omega) ho) (if lev = 2 then 1 else 120) r.1 r.2 h2.2
        cases h6 : zg_lp tp ln em (zg tp ln em d (lev + 1) op) lev (if lev = 2 then 1 else 120) r.1 r.2 with
        | inl e => rw [h6] at h4; exact ⟨Nat.le_trans h2.1 h4.1, h4.2⟩
        | inr q => rw [h6] at h4; exact ⟨Nat.le_trans h2.1 h4.1, h4.2⟩
    · split
      · have h2 := zg_num_in (ln := ln) ht 4 p 0 hp
        exact ⟨h2.1, h2.2.1⟩
      · split
        · rename_i h3
          have := zg_c_lt (tp := tp) (zg_nam_0 h3)
          exact ⟨Nat.le_succ p, this⟩
        · split
          · exact ⟨Nat.le_refl p, hp⟩
          · rename_i h5
            have h6 : ¬ 6 ≤ op := fun q => h5 (Or.inl q)
            have hp1 : p < ln := zg_c_lt (tp := tp) (fun q => h5 (Or.inr (by rw [q]; decide)))
            split
            · have h2 := zg_le ht d 0 (op + 1) (p + 1) s hp1 (by omega) (by omega) (by omega)
              cases h3 : zg tp ln em d 0 (op + 1) (p + 1) s with
              | inl e => rw [h3] at h2; exact ⟨Nat.le_trans (Nat.le_succ p) h2.1, h2.2⟩
              | inr r =>
                rw [h3] at h2
                simp only
                split
                · rename_i h7
                  have := zg_c_lt (tp := tp) (ln := ln) (p := r.1) (by omega)
                  exact ⟨Nat.le_trans (Nat.le_succ p) (Nat.le_trans h2.1 (Nat.le_succ _)), this⟩
                · exact ⟨Nat.le_trans (Nat.le_succ p) h2.1, h2.2⟩
            · have h2 := zg_le ht d 5 (op + 1) (p + 1) s hp1 (by omega) (by omega) (by omega)
              cases h3 : zg tp ln em d 5 (op + 1) (p + 1) s with
              | inl e => rw [h3] at h2; exact ⟨Nat.le_trans (Nat.le_succ p) h2.1, h2.2⟩
              | inr r => rw [h3] at h2; exact ⟨Nat.le_trans (Nat.le_succ p) h2.1, h2.2⟩
theorem zg_lp_stop {part : Nat → σ → zg_R σ} {lev : Nat} {p : Nat} {s : σ} (h : ¬ zg_lev (zg_c tp ln p) = lev) : ∀ f, zg_lp tp ln em part lev f p s = .inr (p, s)
  | 0 => rfl
  | f + 1 => by simp only [zg_lp]; rw [if_neg h]
/-- how a call's end says it: the place, the fault, what is made -/
def zg_post (r : zg_R σ) (p : Nat) (ft : Int32) (s : σ) : Prop := match r with | .inl e => p = e ∧ ft = nI e | .inr q => p = q.1 ∧ ft = -1 ∧ s = q.2
theorem zg_pl {r : zg_R σ} {p e : Nat} {ft : Int32} {s : σ} (h : zg_post r p ft s) (hr : r = .inl e) : p = e ∧ ft = nI e := by subst hr; exact h
theorem zg_pr {r : zg_R σ} {p : Nat} {q : Nat × σ} {ft : Int32} {s : σ} (h : zg_post r p ft s) (hr : r = .inr q) : p = q.1 ∧ ft = -1 ∧ s = q.2 := by subst hr; exact h
end ZG
/-- the class's codes -/
abbrev zg_S : Type := Nat × (Nat → Nat) × (Nat → Nat)
def zg_em (c v : Nat) (s : zg_S) : zg_S := if s.1 < 128 then (s.1 + 1, zs_up s.2.1 s.1 c, zs_up s.2.2 s.1 v) else s
theorem zg_em_le (c v : Nat) {s : zg_S} (h : s.1 ≤ 128) : (zg_em c v s).1 ≤ 128 := by
  unfold zg_em; split
  · show s.1 + 1 ≤ 128; omega
  · exact h
def zg_pt (w : Nat) (s : zg_S) : zg_S := if w < 128 then (s.1, s.2.1, zs_up s.2.2 w s.1) else s
def zg_line (tp : Nat → Nat) (ln p : Nat) (s : zg_S) : zg_R zg_S :=
  match zg tp ln zg_em 42 0 0 p s with
  | .inl e => .inl e
  | .inr r => if zg_c tp ln r.1 = 63 then (match zg tp ln zg_em 42 0 0 (r.1 + 1) (zg_em 3 0 r.2) with | .inl e => .inl e | .inr q => .inr (q.1, zg_pt r.2.1 (zg_em 4 0 q.2))) else .inr (r.1, zg_em 4 0 r.2)
def zg_lines (tp : Nat → Nat) (ln : Nat) : Nat → Nat → zg_S → zg_R zg_S
  | 0, p, s => .inr (p, s)
  | f + 1, p, s => if zg_c tp ln p = 59 then (match zg_line tp ln (p + 1) s with | .inl e => .inl e | .inr r => zg_lines tp ln f r.1 r.2) else .inr (p, s)
def zg_read (tp : Nat → Nat) (ln : Nat) (CN XN : Nat → Nat) : zg_R zg_S :=
  match zg_line tp ln 0 (0, CN, XN) with
  | .inl e => .inl e
  | .inr r => match zg_lines tp ln 119 r.1 r.2 with
    | .inl e => .inl e
    | .inr q => if q.1 < ln then .inl q.1 else .inr q
theorem zg_line_in {tp : Nat → Nat} {ln p : Nat} {s : zg_S} (ht : ∀ i, tp i < 256) (hp : p ≤ ln) : zg_in ln p (zg_line tp ln p s) := by
  unfold zg_line
  have h1 := zg_le (em := zg_em) ht 42 0 0 p s hp (by decide) (by decide) (by decide)
  cases h2 : zg tp ln zg_em 42 0 0 p s with
  | inl e => rw [h2] at h1; exact h1
  | inr r =>
    rw [h2] at h1
    simp only
    split
    · rename_i h3
      have h4 := zg_c_lt (tp := tp) (ln := ln) (p := r.1) (by omega)
      have h5 := zg_le (em := zg_em) ht 42 0 0 (r.1 + 1) (zg_em 3 0 r.2) h4 (by decide) (by decide) (by decide)
      cases h6 : zg tp ln zg_em 42 0 0 (r.1 + 1) (zg_em 3 0 r.2) with
      | inl e => rw [h6] at h5; exact ⟨Nat.le_trans h1.1 (Nat.le_trans (Nat.le_succ _) h5.1), h5.2⟩
      | inr q => rw [h6] at h5; exact ⟨Nat.le_trans h1.1 (Nat.le_trans (Nat.le_succ _) h5.1), h5.2⟩
    · exact h1
theorem zg_lines_stop {tp : Nat → Nat} {ln p : Nat} {s : zg_S} (h : ¬ zg_c tp ln p = 59) : ∀ f, zg_lines tp ln f p s = .inr (p, s)
  | 0 => rfl
  | f + 1 => by simp only [zg_lines]; rw [if_neg h]
def zg_ans (r : zg_R zg_S) : Int32 := match r with | .inl e => nI e | .inr _ => -1
def zg_law (r : zg_R zg_S) : Int32 := match r with | .inl e => -100 - nI e | .inr _ => 1
/-- the codes behind a reading: as they were, or new -/
def zg_new (r : zg_R zg_S) (sz : Nat) (C X : Nat → Nat) (sz1 : Nat) (C1 X1 : Nat → Nat) : Prop := match r with | .inl _ => sz1 = sz ∧ C1 = C ∧ X1 = X | .inr q => (sz1, C1, X1) = q.2
theorem zg_pt_le (w : Nat) {s : zg_S} (h : s.1 ≤ 128) : (zg_pt w s).1 ≤ 128 := by unfold zg_pt; split <;> exact h

abbrev rm_X2_letter : Room := { frames := 0, cells := 0, slots := 0, locals := 0 }
theorem dvX2_letter : zk_dv yX2_letter RX2 0 := by decide +kernel
set_option maxRecDepth 100000 in
set_option maxHeartbeats 1500000 in
theorem ct_X2_letter (l : Launch) (D : va_G) (g : Nat → ClassId) (τ : Nat → Nat) (a : Nat → Nat) (kc : Nat) (kv : Nat) (kn : Nat) (km : Nat) (sz : Nat) (ns : Nat) (ln : Nat) (p : Nat) (ft : Int32) (tp : Nat → Nat) (hln : ln ≤ 120) (hp : p ≤ 120) : zk_MI l D g τ yX2_letter wsX2_letter rm_X2_letter [.ref (a 1)] [(a 1, .inr (2, [.ref (a 10), .ref (a 11), .ref (a 12), .ref kc, .ref kv, .ref kn, .ref km, .int (nI sz), .int (nI ns), .int (nI ln), .int (nI p), .int ft])), (a 11, .inl (g 0, 120, .inl (fun i => nI (tp i))))] (fun (r : Int32) (_ : Unit) => r = zg_l tp ln p) (fun (_ : Unit) => [(a 1, .inr (2, [.ref (a 10), .ref (a 11), .ref (a 12), .ref kc, .ref kv, .ref kn, .ref km, .int (nI sz), .int (nI ns), .int (nI ln), .int (nI p), .int ft])), (a 11, .inl (g 0, 120, .inl (fun i => nI (tp i))))]) := by
  refine zk_of (Qc := fun A => va_Qi (fun (r : Int32) (_ : Unit) => r = zg_l tp ln p) (zk_B D g A (fun (_ : Unit) => [(a 1, .inr (2, [.ref (a 10), .ref (a 11), .ref (a 12), .ref kc, .ref kv, .ref kn, .ref km, .int (nI sz), .int (nI ns), .int (nI ln), .int (nI p), .int ft])), (a 11, .inl (g 0, 120, .inl (fun i => nI (tp i))))])) A) (cc := cX2_letter) (maxL := 1) (ret := (some .int)) (own := RX2) (by decide) rfl rfl (Nat.le_of_ble_eq_true rfl) ?_
  intro pP eE sS mM args below meth cC aA ls qQ Z hR_ hlk hnm hK hT hA hQ G hl
  have hinX2 : ∀ w ∈ u_ws RX2 TX2 12, w ∈ wsX2_letter := (fun _ h => List.mem_cons_of_mem _ (List.mem_append_right _ h))
  refine lv_aload_n Z.1 Z.2.1 dX2_letter_0 rfl (lv_at hl 0 rfl) ?_
  refine zk_get (C := RX2) (T := TX2) (N := 12) (ci := 2) Z hK G hinX2 0 rfl rfl 10 (by decide) (List.mem_of_getElem? (i := 1) rfl) rfl (v := .int (nI p)) rfl dX2_letter_1 ?_
  refine lv_aload_n Z.1 Z.2.1 dX2_letter_4 rfl (lv_at hl 0 rfl) ?_
  refine zk_get (C := RX2) (T := TX2) (N := 12) (ci := 2) Z hK G hinX2 0 rfl rfl 9 (by decide) (List.mem_of_getElem? (i := 2) rfl) rfl (v := .int (nI ln)) rfl dX2_letter_5 ?_
  refine lv_icmp_ge (tgt := 23) Z.1 Z.2.1 dX2_letter_8 (by decide) (fun c8 => ?_) (fun c8 => ?_)
  · have c8 : ln ≤ p := zk_le (by omega) (by omega) c8
    refine lv_iconst (v := (-1)) Z.1 Z.2.1 dX2_letter_23 (by decide +kernel) ?_
    exact zk_reti Z hR_ hlk hK hQ G () (zg_l_ge (Nat.not_lt.mpr c8)).symm rfl dX2_letter_24
  have c8 : p < ln := zk_nle (by omega) (by omega) c8
  refine lv_aload_n Z.1 Z.2.1 dX2_letter_11 rfl (lv_at hl 0 rfl) ?_
  refine zk_get (C := RX2) (T := TX2) (N := 12) (ci := 2) Z hK G hinX2 0 rfl rfl 1 (by decide) (List.mem_of_getElem? (i := 3) rfl) rfl (v := .ref (a 11)) rfl dX2_letter_12 ?_
  refine lv_aload_n Z.1 Z.2.1 dX2_letter_15 rfl (lv_at hl 0 rfl) ?_
  refine zk_get (C := RX2) (T := TX2) (N := 12) (ci := 2) Z hK G hinX2 0 rfl rfl 10 (by decide) (List.mem_of_getElem? (i := 1) rfl) rfl (v := .int (nI p)) rfl dX2_letter_16 ?_
  refine zk_iald Z hK G 1 rfl (k := p) (by omega) (by decide) (v := nI (tp p)) rfl dX2_letter_19 ?_
  refine lv_goto (tgt := 24) Z.1 Z.2.1 dX2_letter_20 (by decide) ?_
  exact zk_reti Z hR_ hlk hK hQ G () (zg_l_at c8).symm rfl dX2_letter_24

abbrev rm_X2_emit : Room := { frames := 0, cells := 0, slots := 0, locals := 0 }
theorem dvX2_emit : zk_dv yX2_emit RX2 2 := by decide +kernel
set_option maxRecDepth 100000 in
set_option maxHeartbeats 1500000 in
theorem ct_X2_emit (l : Launch) (D : va_G) (g : Nat → ClassId) (τ : Nat → Nat) (a : Nat → Nat) (kc : Nat) (kv : Nat) (kn : Nat) (km : Nat) (sz : Nat) (ns : Nat) (ln : Nat) (p : Nat) (ft : Int32) (CN : Nat → Nat) (XN : Nat → Nat) (c9 : Nat) (v9 : Nat) (hns : ns ≤ 128) : zk_MV l D g τ yX2_emit wsX2_emit rm_X2_emit [.ref (a 1), .int (nI c9), .int (nI v9)] [(a 1, .inr (2, [.ref (a 10), .ref (a 11), .ref (a 12), .ref kc, .ref kv, .ref kn, .ref km, .int (nI sz), .int (nI ns), .int (nI ln), .int (nI p), .int ft])), (kn, .inl (g 0, 128, .inl (fun i => nI (CN i)))), (km, .inl (g 0, 128, .inl (fun i => nI (XN i))))] (fun (_ : Unit) => True) (fun (_ : Unit) => [(a 1, .inr (2, [.ref (a 10), .ref (a 11), .ref (a 12), .ref kc, .ref kv, .ref kn, .ref km, .int (nI sz), .int (nI ((zg_em c9 v9 (ns, CN, XN)).1)), .int (nI ln), .int (nI p), .int ft])), (kn, .inl (g 0, 128, .inl (fun i => nI ((zg_em c9 v9 (ns, CN, XN)).2.1 i)))), (km, .inl (g 0, 128, .inl (fun i => nI ((zg_em c9 v9 (ns, CN, XN)).2.2 i))))]) := by
  refine zk_of (Qc := fun A => va_Qv (fun (_ : Unit) => True) (zk_B D g A (fun (_ : Unit) => [(a 1, .inr (2, [.ref (a 10), .ref (a 11), .ref (a 12), .ref kc, .ref kv, .ref kn, .ref km, .int (nI sz), .int (nI ((zg_em c9 v9 (ns, CN, XN)).1)), .int (nI ln), .int (nI p), .int ft])), (kn, .inl (g 0, 128, .inl (fun i => nI ((zg_em c9 v9 (ns, CN, XN)).2.1 i)))), (km, .inl (g 0, 128, .inl (fun i => nI ((zg_em c9 v9 (ns, CN, XN)).2.2 i))))])) A) (cc := cX2_emit) (maxL := 3) (ret := none) (own := RX2) (by decide) rfl rfl (Nat.le_of_ble_eq_true rfl) ?_
  intro pP eE sS mM args below meth cC aA ls qQ Z hR_ hlk hnm hK hT hA hQ G hl
  have hinX2 : ∀ w ∈ u_ws RX2 TX2 12, w ∈ wsX2_emit := (fun _ h => List.mem_cons_of_mem _ (List.mem_append_right _ h))
  refine lv_aload_n Z.1 Z.2.1 dX2_emit_0 rfl (lv_at hl 0 rfl) ?_
  refine zk_get (C := RX2) (T := TX2) (N := 12) (ci := 2) Z hK G hinX2 0 rfl rfl 8 (by decide) (List.mem_of_getElem? (i := 1) rfl) rfl (v := .int (nI ns)) rfl dX2_emit_1 ?_
  refine lv_sipush (v := nI 128) Z.1 Z.2.1 dX2_emit_4 (by decide +kernel) ?_
  refine lv_icmp_ge (tgt := 40) Z.1 Z.2.1 dX2_emit_7 (by decide) (fun c7 => ?_) (fun c7 => ?_)
  · have c7 : 128 ≤ ns := zk_le (by omega) (by omega) c7
    have e9 : zg_em c9 v9 (ns, CN, XN) = (ns, CN, XN) := if_neg (Nat.not_lt.mpr c7)
    exact zk_retv Z hR_ hlk hK hQ G () trivial (by rw [e9]) dX2_emit_40
  have c7 : ns < 128 := zk_nle (by omega) (by omega) c7
  refine lv_aload_n Z.1 Z.2.1 dX2_emit_10 rfl (lv_at hl 0 rfl) ?_
  refine zk_get (C := RX2) (T := TX2) (N := 12) (ci := 2) Z hK G hinX2 0 rfl rfl 5 (by decide) (List.mem_of_getElem? (i := 2) rfl) rfl (v := .ref kn) rfl dX2_emit_11 ?_
  refine lv_aload_n Z.1 Z.2.1 dX2_emit_14 rfl (lv_at hl 0 rfl) ?_
  refine zk_get (C := RX2) (T := TX2) (N := 12) (ci := 2) Z hK G hinX2 0 rfl rfl 8 (by decide) (List.mem_of_getElem? (i := 1) rfl) rfl (v := .int (nI ns)) rfl dX2_emit_15 ?_
  refine lv_iload_n Z.1 Z.2.1 dX2_emit_18 rfl (lv_at hl 1 rfl) ?_
  refine zk_iast Z hK G 1 rfl (k := ns) (by omega) (by decide) (zs_up_n _ _ _) (ws' := [(a 1, .inr (2, [.ref (a 10), .ref (a 11), .ref (a 12), .ref kc, .ref kv, .ref kn, .ref km, .int (nI sz), .int (nI ns), .int (nI ln), .int (nI p), .int ft])), (kn, .inl (g 0, 128, .inl (fun i => nI (zs_up CN ns c9 i)))), (km, .inl (g 0, 128, .inl (fun i => nI (XN i))))]) rfl dX2_emit_19 (fun H locs G => ?_)
  refine lv_aload_n Z.1 Z.2.1 dX2_emit_20 rfl (lv_at hl 0 rfl) ?_
  refine zk_get (C := RX2) (T := TX2) (N := 12) (ci := 2) Z hK G hinX2 0 rfl rfl 6 (by decide) (List.mem_of_getElem? (i := 3) rfl) rfl (v := .ref km) rfl dX2_emit_21 ?_
  refine lv_aload_n Z.1 Z.2.1 dX2_emit_24 rfl (lv_at hl 0 rfl) ?_
  refine zk_get (C := RX2) (T := TX2) (N := 12) (ci := 2) Z hK G hinX2 0 rfl rfl 8 (by decide) (List.mem_of_getElem? (i := 1) rfl) rfl (v := .int (nI ns)) rfl dX2_emit_25 ?_
  refine lv_iload_n Z.1 Z.2.1 dX2_emit_28 rfl (lv_at hl 2 rfl) ?_
  refine zk_iast Z hK G 2 rfl (k := ns) (by omega) (by decide) (zs_up_n _ _ _) (ws' := [(a 1, .inr (2, [.ref (a 10), .ref (a 11), .ref (a 12), .ref kc, .ref kv, .ref kn, .ref km, .int (nI sz), .int (nI ns), .int (nI ln), .int (nI p), .int ft])), (kn, .inl (g 0, 128, .inl (fun i => nI (zs_up CN ns c9 i)))), (km, .inl (g 0, 128, .inl (fun i => nI (zs_up XN ns v9 i))))]) rfl dX2_emit_29 (fun H locs G => ?_)
  refine lv_aload_n Z.1 Z.2.1 dX2_emit_30 rfl (lv_at hl 0 rfl) ?_
  refine lv_dup Z.1 Z.2.1 dX2_emit_31 rfl ?_
  refine zk_get (C := RX2) (T := TX2) (N := 12) (ci := 2) Z hK G hinX2 0 rfl rfl 8 (by decide) (List.mem_of_getElem? (i := 1) rfl) rfl (v := .int (nI ns)) rfl dX2_emit_32 ?_
  refine lv_iconst (v := nI 1) Z.1 Z.2.1 dX2_emit_35 (by decide +kernel) ?_
  refine zk_iadd Z dX2_emit_36 (z := nI (ns + 1)) (nI_add _ _) ?_
  refine zk_put tyX2 tyX2_ok nmX2 (C := RX2) (T := TX2) (N := 12) (ci := 2) Z hK G hinX2 0 rfl rfl 8 (by decide) (List.mem_of_getElem? (i := 1) rfl) rfl rfl rfl rfl (Nat.le_of_ble_eq_true rfl) (ws' := [(a 1, .inr (2, [.ref (a 10), .ref (a 11), .ref (a 12), .ref kc, .ref kv, .ref kn, .ref km, .int (nI sz), .int (nI (ns + 1)), .int (nI ln), .int (nI p), .int ft])), (kn, .inl (g 0, 128, .inl (fun i => nI (zs_up CN ns c9 i)))), (km, .inl (g 0, 128, .inl (fun i => nI (zs_up XN ns v9 i))))]) rfl dX2_emit_37 (fun H locs G => ?_)
  have e9 : zg_em c9 v9 (ns, CN, XN) = (ns + 1, zs_up CN ns c9, zs_up XN ns v9) := if_pos c7
  exact zk_retv Z hR_ hlk hK hQ G () trivial (by rw [e9]) dX2_emit_40

abbrev rm_X2_levelOf : Room := { frames := 0, cells := 0, slots := 0, locals := 0 }
theorem dvX2_levelOf : zk_dv yX2_levelOf RX2 1 := by decide +kernel
set_option maxRecDepth 100000 in
set_option maxHeartbeats 1500000 in
theorem ct_X2_levelOf (l : Launch) (D : va_G) (g : Nat → ClassId) (τ : Nat → Nat) (x : Int32)  : zk_MI l D g τ yX2_levelOf wsX2_levelOf rm_X2_levelOf [.int x] [] (fun (r : Int32) (_ : Unit) => r = zg_li x) (fun (_ : Unit) => []) := by
  refine zk_of (Qc := fun A => va_Qi (fun (r : Int32) (_ : Unit) => r = zg_li x) (zk_B D g A (fun (_ : Unit) => [])) A) (cc := cX2_levelOf) (maxL := 1) (ret := (some .int)) (own := RX2) (by decide) rfl rfl (Nat.le_of_ble_eq_true rfl) ?_
  intro pP eE sS mM args below meth cC aA ls qQ Z hR_ hlk hnm hK hT hA hQ G hl
  refine lv_iload_n Z.1 Z.2.1 dX2_levelOf_0 rfl (lv_at hl 0 rfl) ?_
  by_cases c1_37 : x = nI 37
  · subst c1_37
    refine lv_lookup (tgt := 100) Z.1 Z.2.1 dX2_levelOf_1 (by decide) (by rfl) (by decide) ?_
    refine lv_iconst (v := nI 4) Z.1 Z.2.1 dX2_levelOf_100 (by decide +kernel) ?_
    exact zk_reti Z hR_ hlk hK hQ G () (by decide) rfl dX2_levelOf_101
  by_cases c1_38 : x = nI 38
  · subst c1_38
    refine lv_lookup (tgt := 94) Z.1 Z.2.1 dX2_levelOf_1 (by decide) (by rfl) (by decide) ?_
    refine lv_iconst (v := nI 1) Z.1 Z.2.1 dX2_levelOf_94 (by decide +kernel) ?_
    exact zk_reti Z hR_ hlk hK hQ G () (by decide) rfl dX2_levelOf_95
  by_cases c1_42 : x = nI 42
  · subst c1_42
    refine lv_lookup (tgt := 100) Z.1 Z.2.1 dX2_levelOf_1 (by decide) (by rfl) (by decide) ?_
    refine lv_iconst (v := nI 4) Z.1 Z.2.1 dX2_levelOf_100 (by decide +kernel) ?_
    exact zk_reti Z hR_ hlk hK hQ G () (by decide) rfl dX2_levelOf_101
  by_cases c1_43 : x = nI 43
  · subst c1_43
    refine lv_lookup (tgt := 98) Z.1 Z.2.1 dX2_levelOf_1 (by decide) (by rfl) (by decide) ?_
    refine lv_iconst (v := nI 3) Z.1 Z.2.1 dX2_levelOf_98 (by decide +kernel) ?_
    exact zk_reti Z hR_ hlk hK hQ G () (by decide) rfl dX2_levelOf_99
  by_cases c1_45 : x = nI 45
  · subst c1_45
    refine lv_lookup (tgt := 98) Z.1 Z.2.1 dX2_levelOf_1 (by decide) (by rfl) (by decide) ?_
    refine lv_iconst (v := nI 3) Z.1 Z.2.1 dX2_levelOf_98 (by decide +kernel) ?_
    exact zk_reti Z hR_ hlk hK hQ G () (by decide) rfl dX2_levelOf_99
  by_cases c1_47 : x = nI 47
  · subst c1_47
    refine lv_lookup (tgt := 100) Z.1 Z.2.1 dX2_levelOf_1 (by decide) (by rfl) (by decide) ?_
    refine lv_iconst (v := nI 4) Z.1 Z.2.1 dX2_levelOf_100 (by decide +kernel) ?_
    exact zk_reti Z hR_ hlk hK hQ G () (by decide) rfl dX2_levelOf_101
  by_cases c1_60 : x = nI 60
  · subst c1_60
    refine lv_lookup (tgt := 96) Z.1 Z.2.1 dX2_levelOf_1 (by decide) (by rfl) (by decide) ?_
    refine lv_iconst (v := nI 2) Z.1 Z.2.1 dX2_levelOf_96 (by decide +kernel) ?_
    exact zk_reti Z hR_ hlk hK hQ G () (by decide) rfl dX2_levelOf_97
  by_cases c1_61 : x = nI 61
  · subst c1_61
    refine lv_lookup (tgt := 96) Z.1 Z.2.1 dX2_levelOf_1 (by decide) (by rfl) (by decide) ?_
    refine lv_iconst (v := nI 2) Z.1 Z.2.1 dX2_levelOf_96 (by decide +kernel) ?_
    exact zk_reti Z hR_ hlk hK hQ G () (by decide) rfl dX2_levelOf_97
  by_cases c1_62 : x = nI 62
  · subst c1_62
    refine lv_lookup (tgt := 96) Z.1 Z.2.1 dX2_levelOf_1 (by decide) (by rfl) (by decide) ?_
    refine lv_iconst (v := nI 2) Z.1 Z.2.1 dX2_levelOf_96 (by decide +kernel) ?_
    exact zk_reti Z hR_ hlk hK hQ G () (by decide) rfl dX2_levelOf_97
  by_cases c1_124 : x = nI 124
  · subst c1_124
    refine lv_lookup (tgt := 92) Z.1 Z.2.1 dX2_levelOf_1 (by decide) (by rfl) (by decide) ?_
    refine lv_iconst (v := nI 0) Z.1 Z.2.1 dX2_levelOf_92 (by decide +kernel) ?_
    exact zk_reti Z hR_ hlk hK hQ G () (by decide) rfl dX2_levelOf_93
  have c1_37' : ¬ x.toInt = 37 := lv_neT c1_37 (by decide)
  have c1_38' : ¬ x.toInt = 38 := lv_neT c1_38 (by decide)
  have c1_42' : ¬ x.toInt = 42 := lv_neT c1_42 (by decide)
  have c1_43' : ¬ x.toInt = 43 := lv_neT c1_43 (by decide)
  have c1_45' : ¬ x.toInt = 45 := lv_neT c1_45 (by decide)
  have c1_47' : ¬ x.toInt = 47 := lv_neT c1_47 (by decide)
  have c1_60' : ¬ x.toInt = 60 := lv_neT c1_60 (by decide)
  have c1_61' : ¬ x.toInt = 61 := lv_neT c1_61 (by decide)
  have c1_62' : ¬ x.toInt = 62 := lv_neT c1_62 (by decide)
  have c1_124' : ¬ x.toInt = 124 := lv_neT c1_124 (by decide)
  refine lv_lookup (tgt := 102) Z.1 Z.2.1 dX2_levelOf_1 (by decide) (off := 101) (by show Op.lookupswitch.offset [(37, 99), (38, 93), (42, 99), (43, 97), (45, 97), (47, 99), (60, 95), (61, 95), (62, 95), (124, 91)] 101 _ = _; rw [lv_osw c1_37 (by decide), lv_osw c1_38 (by decide), lv_osw c1_42 (by decide), lv_osw c1_43 (by decide), lv_osw c1_45 (by decide), lv_osw c1_47 (by decide), lv_osw c1_60 (by decide), lv_osw c1_61 (by decide), lv_osw c1_62 (by decide), lv_osw c1_124 (by decide)]; rfl) (by decide) ?_
  refine lv_iconst (v := (-1)) Z.1 Z.2.1 dX2_levelOf_102 (by decide +kernel) ?_
  exact zk_reti Z hR_ hlk hK hQ G () (by unfold zg_li; rw [if_neg c1_124, if_neg c1_38, if_neg c1_60, if_neg c1_61, if_neg c1_62, if_neg c1_43, if_neg c1_45, if_neg c1_42, if_neg c1_47, if_neg c1_37]) rfl dX2_levelOf_103

abbrev rm_X2_nameOf : Room := { frames := 0, cells := 0, slots := 0, locals := 0 }
theorem dvX2_nameOf : zk_dv yX2_nameOf RX2 1 := by decide +kernel
set_option maxRecDepth 100000 in
set_option maxHeartbeats 1500000 in
theorem ct_X2_nameOf (l : Launch) (D : va_G) (g : Nat → ClassId) (τ : Nat → Nat) (x : Int32)  : zk_MI l D g τ yX2_nameOf wsX2_nameOf rm_X2_nameOf [.int x] [] (fun (r : Int32) (_ : Unit) => r = zg_ni x) (fun (_ : Unit) => []) := by
  refine zk_of (Qc := fun A => va_Qi (fun (r : Int32) (_ : Unit) => r = zg_ni x) (zk_B D g A (fun (_ : Unit) => [])) A) (cc := cX2_nameOf) (maxL := 1) (ret := (some .int)) (own := RX2) (by decide) rfl rfl (Nat.le_of_ble_eq_true rfl) ?_
  intro pP eE sS mM args below meth cC aA ls qQ Z hR_ hlk hnm hK hT hA hQ G hl
  refine lv_iload_n Z.1 Z.2.1 dX2_nameOf_0 rfl (lv_at hl 0 rfl) ?_
  by_cases c1_97 : x = nI 97
  · subst c1_97
    refine lv_tableIn (tgt := 96) Z.1 Z.2.1 dX2_nameOf_1 (by decide) (by decide) (by rfl) (by decide) ?_
    refine lv_iconst (v := nI 4) Z.1 Z.2.1 dX2_nameOf_96 (by decide +kernel) ?_
    exact zk_reti Z hR_ hlk hK hQ G () (by decide) rfl dX2_nameOf_97
  by_cases c1_98 : x = nI 98
  · subst c1_98
    refine lv_tableIn (tgt := 98) Z.1 Z.2.1 dX2_nameOf_1 (by decide) (by decide) (by rfl) (by decide) ?_
    refine lv_iconst (v := nI 5) Z.1 Z.2.1 dX2_nameOf_98 (by decide +kernel) ?_
    exact zk_reti Z hR_ hlk hK hQ G () (by decide) rfl dX2_nameOf_99
  by_cases c1_99 : x = nI 99
  · subst c1_99
    refine lv_tableIn (tgt := 100) Z.1 Z.2.1 dX2_nameOf_1 (by decide) (by decide) (by rfl) (by decide) ?_
    refine lv_iconst (v := (-1)) Z.1 Z.2.1 dX2_nameOf_100 (by decide +kernel) ?_
    exact zk_reti Z hR_ hlk hK hQ G () (by decide) rfl dX2_nameOf_101
  by_cases c1_100 : x = nI 100
  · subst c1_100
    refine lv_tableIn (tgt := 88) Z.1 Z.2.1 dX2_nameOf_1 (by decide) (by decide) (by rfl) (by decide) ?_
    refine lv_iconst (v := nI 0) Z.1 Z.2.1 dX2_nameOf_88 (by decide +kernel) ?_
    exact zk_reti Z hR_ hlk hK hQ G () (by decide) rfl dX2_nameOf_89
  by_cases c1_101 : x = nI 101
  · subst c1_101
    refine lv_tableIn (tgt := 100) Z.1 Z.2.1 dX2_nameOf_1 (by decide) (by decide) (by rfl) (by decide) ?_
    refine lv_iconst (v := (-1)) Z.1 Z.2.1 dX2_nameOf_100 (by decide +kernel) ?_
    exact zk_reti Z hR_ hlk hK hQ G () (by decide) rfl dX2_nameOf_101
  by_cases c1_102 : x = nI 102
  · subst c1_102
    refine lv_tableIn (tgt := 100) Z.1 Z.2.1 dX2_nameOf_1 (by decide) (by decide) (by rfl) (by decide) ?_
    refine lv_iconst (v := (-1)) Z.1 Z.2.1 dX2_nameOf_100 (by decide +kernel) ?_
    exact zk_reti Z hR_ hlk hK hQ G () (by decide) rfl dX2_nameOf_101
  by_cases c1_103 : x = nI 103
  · subst c1_103
    refine lv_tableIn (tgt := 100) Z.1 Z.2.1 dX2_nameOf_1 (by decide) (by decide) (by rfl) (by decide) ?_
    refine lv_iconst (v := (-1)) Z.1 Z.2.1 dX2_nameOf_100 (by decide +kernel) ?_
    exact zk_reti Z hR_ hlk hK hQ G () (by decide) rfl dX2_nameOf_101
  by_cases c1_104 : x = nI 104
  · subst c1_104
    refine lv_tableIn (tgt := 94) Z.1 Z.2.1 dX2_nameOf_1 (by decide) (by decide) (by rfl) (by decide) ?_
    refine lv_iconst (v := nI 3) Z.1 Z.2.1 dX2_nameOf_94 (by decide +kernel) ?_
    exact zk_reti Z hR_ hlk hK hQ G () (by decide) rfl dX2_nameOf_95
  by_cases c1_105 : x = nI 105
  · subst c1_105
    refine lv_tableIn (tgt := 100) Z.1 Z.2.1 dX2_nameOf_1 (by decide) (by decide) (by rfl) (by decide) ?_
    refine lv_iconst (v := (-1)) Z.1 Z.2.1 dX2_nameOf_100 (by decide +kernel) ?_
    exact zk_reti Z hR_ hlk hK hQ G () (by decide) rfl dX2_nameOf_101
  by_cases c1_106 : x = nI 106
  · subst c1_106
    refine lv_tableIn (tgt := 100) Z.1 Z.2.1 dX2_nameOf_1 (by decide) (by decide) (by rfl) (by decide) ?_
    refine lv_iconst (v := (-1)) Z.1 Z.2.1 dX2_nameOf_100 (by decide +kernel) ?_
    exact zk_reti Z hR_ hlk hK hQ G () (by decide) rfl dX2_nameOf_101
  by_cases c1_107 : x = nI 107
  · subst c1_107
    refine lv_tableIn (tgt := 100) Z.1 Z.2.1 dX2_nameOf_1 (by decide) (by decide) (by rfl) (by decide) ?_
    refine lv_iconst (v := (-1)) Z.1 Z.2.1 dX2_nameOf_100 (by decide +kernel) ?_
    exact zk_reti Z hR_ hlk hK hQ G () (by decide) rfl dX2_nameOf_101
  by_cases c1_108 : x = nI 108
  · subst c1_108
    refine lv_tableIn (tgt := 100) Z.1 Z.2.1 dX2_nameOf_1 (by decide) (by decide) (by rfl) (by decide) ?_
    refine lv_iconst (v := (-1)) Z.1 Z.2.1 dX2_nameOf_100 (by decide +kernel) ?_
    exact zk_reti Z hR_ hlk hK hQ G () (by decide) rfl dX2_nameOf_101
  by_cases c1_109 : x = nI 109
  · subst c1_109
    refine lv_tableIn (tgt := 100) Z.1 Z.2.1 dX2_nameOf_1 (by decide) (by decide) (by rfl) (by decide) ?_
    refine lv_iconst (v := (-1)) Z.1 Z.2.1 dX2_nameOf_100 (by decide +kernel) ?_
    exact zk_reti Z hR_ hlk hK hQ G () (by decide) rfl dX2_nameOf_101
  by_cases c1_110 : x = nI 110
  · subst c1_110
    refine lv_tableIn (tgt := 100) Z.1 Z.2.1 dX2_nameOf_1 (by decide) (by decide) (by rfl) (by decide) ?_
    refine lv_iconst (v := (-1)) Z.1 Z.2.1 dX2_nameOf_100 (by decide +kernel) ?_
    exact zk_reti Z hR_ hlk hK hQ G () (by decide) rfl dX2_nameOf_101
  by_cases c1_111 : x = nI 111
  · subst c1_111
    refine lv_tableIn (tgt := 100) Z.1 Z.2.1 dX2_nameOf_1 (by decide) (by decide) (by rfl) (by decide) ?_
    refine lv_iconst (v := (-1)) Z.1 Z.2.1 dX2_nameOf_100 (by decide +kernel) ?_
    exact zk_reti Z hR_ hlk hK hQ G () (by decide) rfl dX2_nameOf_101
  by_cases c1_112 : x = nI 112
  · subst c1_112
    refine lv_tableIn (tgt := 100) Z.1 Z.2.1 dX2_nameOf_1 (by decide) (by decide) (by rfl) (by decide) ?_
    refine lv_iconst (v := (-1)) Z.1 Z.2.1 dX2_nameOf_100 (by decide +kernel) ?_
    exact zk_reti Z hR_ hlk hK hQ G () (by decide) rfl dX2_nameOf_101
  by_cases c1_113 : x = nI 113
  · subst c1_113
    refine lv_tableIn (tgt := 92) Z.1 Z.2.1 dX2_nameOf_1 (by decide) (by decide) (by rfl) (by decide) ?_
    refine lv_iconst (v := nI 2) Z.1 Z.2.1 dX2_nameOf_92 (by decide +kernel) ?_
    exact zk_reti Z hR_ hlk hK hQ G () (by decide) rfl dX2_nameOf_93
  by_cases c1_114 : x = nI 114
  · subst c1_114
    refine lv_tableIn (tgt := 90) Z.1 Z.2.1 dX2_nameOf_1 (by decide) (by decide) (by rfl) (by decide) ?_
    refine lv_iconst (v := nI 1) Z.1 Z.2.1 dX2_nameOf_90 (by decide +kernel) ?_
    exact zk_reti Z hR_ hlk hK hQ G () (by decide) rfl dX2_nameOf_91
  have c1_97' : ¬ x.toInt = 97 := lv_neT c1_97 (by decide)
  have c1_98' : ¬ x.toInt = 98 := lv_neT c1_98 (by decide)
  have c1_99' : ¬ x.toInt = 99 := lv_neT c1_99 (by decide)
  have c1_100' : ¬ x.toInt = 100 := lv_neT c1_100 (by decide)
  have c1_101' : ¬ x.toInt = 101 := lv_neT c1_101 (by decide)
  have c1_102' : ¬ x.toInt = 102 := lv_neT c1_102 (by decide)
  have c1_103' : ¬ x.toInt = 103 := lv_neT c1_103 (by decide)
  have c1_104' : ¬ x.toInt = 104 := lv_neT c1_104 (by decide)
  have c1_105' : ¬ x.toInt = 105 := lv_neT c1_105 (by decide)
  have c1_106' : ¬ x.toInt = 106 := lv_neT c1_106 (by decide)
  have c1_107' : ¬ x.toInt = 107 := lv_neT c1_107 (by decide)
  have c1_108' : ¬ x.toInt = 108 := lv_neT c1_108 (by decide)
  have c1_109' : ¬ x.toInt = 109 := lv_neT c1_109 (by decide)
  have c1_110' : ¬ x.toInt = 110 := lv_neT c1_110 (by decide)
  have c1_111' : ¬ x.toInt = 111 := lv_neT c1_111 (by decide)
  have c1_112' : ¬ x.toInt = 112 := lv_neT c1_112 (by decide)
  have c1_113' : ¬ x.toInt = 113 := lv_neT c1_113 (by decide)
  have c1_114' : ¬ x.toInt = 114 := lv_neT c1_114 (by decide)
  refine lv_tableOut (tgt := 100) Z.1 Z.2.1 dX2_nameOf_1 (by omega) (by decide) ?_
  refine lv_iconst (v := (-1)) Z.1 Z.2.1 dX2_nameOf_100 (by decide +kernel) ?_
  exact zk_reti Z hR_ hlk hK hQ G () (by unfold zg_ni; rw [if_neg c1_100, if_neg c1_114, if_neg c1_113, if_neg c1_104, if_neg c1_97, if_neg c1_98]) rfl dX2_nameOf_101

abbrev rm_X2_readNumber : Room := { frames := 1, cells := 0, slots := 0, locals := 22 }
theorem dvX2_readNumber : zk_dv yX2_readNumber RX2 0 := by decide +kernel
set_option maxRecDepth 100000 in
set_option maxHeartbeats 1500000 in
theorem ct_X2_readNumber (l : Launch) (D : va_G) (g : Nat → ClassId) (τ : Nat → Nat) (a : Nat → Nat) (kc : Nat) (kv : Nat) (kn : Nat) (km : Nat) (sz : Nat) (ns : Nat) (ln : Nat) (p : Nat) (ft : Int32) (tp : Nat → Nat) (CN : Nat → Nat) (XN : Nat → Nat) (hln : ln ≤ 120) (hp : p ≤ ln) (ht : ∀ i, tp i < 256) (hns : ns ≤ 128) : zk_MV l D g τ yX2_readNumber wsX2_readNumber rm_X2_readNumber [.ref (a 1)] [(a 1, .inr (2, [.ref (a 10), .ref (a 11), .ref (a 12), .ref kc, .ref kv, .ref kn, .ref km, .int (nI sz), .int (nI ns), .int (nI ln), .int (nI p), .int ft])), (a 11, .inl (g 0, 120, .inl (fun i => nI (tp i)))), (kn, .inl (g 0, 128, .inl (fun i => nI (CN i)))), (km, .inl (g 0, 128, .inl (fun i => nI (XN i))))] (fun (_ : Unit) => True) (fun (_ : Unit) => [(a 1, .inr (2, [.ref (a 10), .ref (a 11), .ref (a 12), .ref kc, .ref kv, .ref kn, .ref km, .int (nI sz), .int (nI ((zg_em 1 ((zg_num tp ln 4 p 0).2) (ns, CN, XN)).1)), .int (nI ln), .int (nI ((zg_num tp ln 4 p 0).1)), .int ft])), (a 11, .inl (g 0, 120, .inl (fun i => nI (tp i)))), (kn, .inl (g 0, 128, .inl (fun i => nI ((zg_em 1 ((zg_num tp ln 4 p 0).2) (ns, CN, XN)).2.1 i)))), (km, .inl (g 0, 128, .inl (fun i => nI ((zg_em 1 ((zg_num tp ln 4 p 0).2) (ns, CN, XN)).2.2 i))))]) := by
  refine zk_of (Qc := fun A => va_Qv (fun (_ : Unit) => True) (zk_B D g A (fun (_ : Unit) => [(a 1, .inr (2, [.ref (a 10), .ref (a 11), .ref (a 12), .ref kc, .ref kv, .ref kn, .ref km, .int (nI sz), .int (nI ((zg_em 1 ((zg_num tp ln 4 p 0).2) (ns, CN, XN)).1)), .int (nI ln), .int (nI ((zg_num tp ln 4 p 0).1)), .int ft])), (a 11, .inl (g 0, 120, .inl (fun i => nI (tp i)))), (kn, .inl (g 0, 128, .inl (fun i => nI ((zg_em 1 ((zg_num tp ln 4 p 0).2) (ns, CN, XN)).2.1 i)))), (km, .inl (g 0, 128, .inl (fun i => nI ((zg_em 1 ((zg_num tp ln 4 p 0).2) (ns, CN, XN)).2.2 i))))])) A) (cc := cX2_readNumber) (maxL := 3) (ret := none) (own := RX2) (by decide) rfl rfl (Nat.le_of_ble_eq_true rfl) ?_
  intro pP eE sS mM args below meth cC aA ls qQ Z hR_ hlk hnm hK hT hA hQ G hl
  have hinX2 : ∀ w ∈ u_ws RX2 TX2 12, w ∈ wsX2_readNumber := (fun _ h => List.mem_cons_of_mem _ (List.mem_append_right _ h))
  obtain ⟨V, hV⟩ : ∃ V, V = (zg_num tp ln 4 p 0) := ⟨_, rfl⟩
  refine lv_iconst (v := nI 0) Z.1 Z.2.1 dX2_readNumber_0 (by decide +kernel) ?_
  refine lv_istore_n (lv' := [(1, .int (nI 0)), (0, .ref (a 1))]) Z.1 Z.2.1 dX2_readNumber_1 rfl hl (by decide) rfl (fun ls hl => ?_)
  refine lv_iconst (v := nI 0) Z.1 Z.2.1 dX2_readNumber_2 (by decide +kernel) ?_
  refine lv_istore_n (lv' := [(2, .int (nI 0)), (1, .int (nI 0)), (0, .ref (a 1))]) Z.1 Z.2.1 dX2_readNumber_3 rfl hl (by decide) rfl (fun ls hl => ?_)
  have L4 : ∀ (nN : Nat) (i : Nat) (p1 : Nat) (v : Nat) (f : Nat), f < nN → (i + f = 4) → (p1 ≤ ln) → (zg_num tp ln f p1 v = V) → ∀ (H : Heap) (locs : List Loc) (ls : Array Slot), zk_G D aA [(a 1, .inr (2, [.ref (a 10), .ref (a 11), .ref (a 12), .ref kc, .ref kv, .ref kn, .ref km, .int (nI sz), .int (nI ns), .int (nI ln), .int (nI p1), .int ft])), (a 11, .inl (g 0, 120, .inl (fun i => nI (tp i)))), (kn, .inl (g 0, 128, .inl (fun i => nI (CN i)))), (km, .inl (g 0, 128, .inl (fun i => nI (XN i))))] sS H locs → lv_has ls 3 [(0, .ref (a 1)), (1, .int (nI v)), (2, .int (nI i))] → W pP l eE rm_X2_readNumber sS mM args below meth cC H locs 0 0 qQ (F0 mM 4 ls []) := by
    intro nN
    induction nN with
    | zero => intros; omega
    | succ nN ih4 =>
      intro i p1 v f hμ h1 h2 hs H locs ls G hl
      refine lv_iload_n Z.1 Z.2.1 dX2_readNumber_4 rfl (lv_at hl 2 rfl) ?_
      refine lv_iconst (v := nI 4) Z.1 Z.2.1 dX2_readNumber_5 (by decide +kernel) ?_
      refine lv_icmp_ge (tgt := 56) Z.1 Z.2.1 dX2_readNumber_6 (by decide) (fun c6 => ?_) (fun c6 => ?_)
      · have c6 : 4 ≤ i := zk_le (by omega) (by omega) c6
        have hE : (p1, v) = V := by rw [show f = 0 by omega] at hs; exact hs
        rw [hV] at hE
        obtain ⟨rfl, rfl⟩ : p1 = (zg_num tp ln 4 p 0).1 ∧ v = (zg_num tp ln 4 p 0).2 := ⟨congrArg Prod.fst hE, congrArg Prod.snd hE⟩
        refine lv_aload_n Z.1 Z.2.1 dX2_readNumber_56 rfl (lv_at hl 0 rfl) ?_
        refine lv_iconst (v := nI 1) Z.1 Z.2.1 dX2_readNumber_57 (by decide +kernel) ?_
        refine lv_iload_n Z.1 Z.2.1 dX2_readNumber_58 rfl (lv_at hl 1 rfl) ?_
        refine zk_cv (WF := fun (_ : Unit) => [(a 1, .inr (2, [.ref (a 10), .ref (a 11), .ref (a 12), .ref kc, .ref kv, .ref kn, .ref km, .int (nI sz), .int (nI ((zg_em 1 ((zg_num tp ln 4 p 0).2) (ns, CN, XN)).1)), .int (nI ln), .int (nI ((zg_num tp ln 4 p 0).1)), .int ft])), (a 11, .inl (g 0, 120, .inl (fun i => nI (tp i)))), (kn, .inl (g 0, 128, .inl (fun i => nI ((zg_em 1 ((zg_num tp ln 4 p 0).2) (ns, CN, XN)).2.1 i)))), (km, .inl (g 0, 128, .inl (fun i => nI ((zg_em 1 ((zg_num tp ln 4 p 0).2) (ns, CN, XN)).2.2 i))))]) (wr := [(a 11, .inl (g 0, 120, .inl (fun i => nI (tp i))))]) ⟨rfl, rfl⟩ (zk_rv (As := [.int (nI 1), .int (nI ((zg_num tp ln 4 p 0).2))]) (rest := []) (q0 := 0) (ci := 2) Z ((ct_X2_emit l D g τ a kc kv kn km sz ns ln ((zg_num tp ln 4 p 0).1) ft CN XN 1 ((zg_num tp ln 4 p 0).2) (by exact hns)) H.size) hK hT hA G [0, 2, 3] rfl (by decide) rfl rfl gX2_readNumber_X2_emit rfl dvX2_emit ⟨by decide, by decide⟩ rfl hl.1 rfl (Nat.le_of_ble_eq_true rfl) dX2_readNumber_59 ⟨Nat.zero_le _, Nat.zero_le _⟩) hA G [0, 2, 3] [1] [1, 0, 2, 3] rfl rfl (by decide) (by decide) (by decide) (fun _ => rfl) (fun _ H locs w_59 G => ?_)
        exact zk_retv Z hR_ hlk hK hQ G () trivial rfl dX2_readNumber_62
      have c6 : i < 4 := zk_nle (by omega) (by omega) c6
      obtain ⟨f9, rfl⟩ : ∃ f9, f = f9 + 1 := ⟨f - 1, by omega⟩
      refine lv_aload_n Z.1 Z.2.1 dX2_readNumber_9 rfl (lv_at hl 0 rfl) ?_
      refine zk_ci (WF := fun (_ : Unit) => [(a 1, .inr (2, [.ref (a 10), .ref (a 11), .ref (a 12), .ref kc, .ref kv, .ref kn, .ref km, .int (nI sz), .int (nI ns), .int (nI ln), .int (nI p1), .int ft])), (a 11, .inl (g 0, 120, .inl (fun i => nI (tp i)))), (kn, .inl (g 0, 128, .inl (fun i => nI (CN i)))), (km, .inl (g 0, 128, .inl (fun i => nI (XN i))))]) (wr := [(kn, .inl (g 0, 128, .inl (fun i => nI (CN i)))), (km, .inl (g 0, 128, .inl (fun i => nI (XN i))))]) ⟨rfl, rfl⟩ (zk_rv (As := []) (rest := []) (q0 := 0) (ci := 2) Z ((ct_X2_letter l D g τ a kc kv kn km sz ns ln p1 ft tp (by exact hln) (by omega)) H.size) hK hT hA G [0, 1] rfl (by decide) rfl rfl gX2_readNumber_X2_letter rfl dvX2_letter ⟨by decide, by decide⟩ rfl hl.1 rfl (Nat.le_of_ble_eq_true rfl) dX2_readNumber_10 ⟨Nat.zero_le _, Nat.zero_le _⟩) hA G [0, 1] [2, 3] [2, 3, 0, 1] rfl rfl (by decide) (by decide) (by decide) (fun _ => rfl) (fun r_10 _ H locs w_10 G => ?_)
      obtain rfl : r_10 = zg_l tp ln p1 := w_10
      refine lv_bipush (v := nI 48) Z.1 Z.2.1 dX2_readNumber_13 (by decide +kernel) ?_
      refine lv_icmp_lt (tgt := 56) Z.1 Z.2.1 dX2_readNumber_15 (by decide) (fun c15 => ?_) (fun c15 => ?_)
      · have c15 : ¬ 48 ≤ zg_c tp ln p1 := fun q9 => (zg_l_ge48 ht).mpr q9 c15
        have hE : (p1, v) = V := by simp only [zg_num] at hs; rw [if_neg (fun q9 => c15 q9.1)] at hs; exact hs
        rw [hV] at hE
        obtain ⟨rfl, rfl⟩ : p1 = (zg_num tp ln 4 p 0).1 ∧ v = (zg_num tp ln 4 p 0).2 := ⟨congrArg Prod.fst hE, congrArg Prod.snd hE⟩
        refine lv_aload_n Z.1 Z.2.1 dX2_readNumber_56 rfl (lv_at hl 0 rfl) ?_
        refine lv_iconst (v := nI 1) Z.1 Z.2.1 dX2_readNumber_57 (by decide +kernel) ?_
        refine lv_iload_n Z.1 Z.2.1 dX2_readNumber_58 rfl (lv_at hl 1 rfl) ?_
        refine zk_cv (WF := fun (_ : Unit) => [(a 1, .inr (2, [.ref (a 10), .ref (a 11), .ref (a 12), .ref kc, .ref kv, .ref kn, .ref km, .int (nI sz), .int (nI ((zg_em 1 ((zg_num tp ln 4 p 0).2) (ns, CN, XN)).1)), .int (nI ln), .int (nI ((zg_num tp ln 4 p 0).1)), .int ft])), (a 11, .inl (g 0, 120, .inl (fun i => nI (tp i)))), (kn, .inl (g 0, 128, .inl (fun i => nI ((zg_em 1 ((zg_num tp ln 4 p 0).2) (ns, CN, XN)).2.1 i)))), (km, .inl (g 0, 128, .inl (fun i => nI ((zg_em 1 ((zg_num tp ln 4 p 0).2) (ns, CN, XN)).2.2 i))))]) (wr := [(a 11, .inl (g 0, 120, .inl (fun i => nI (tp i))))]) ⟨rfl, rfl⟩ (zk_rv (As := [.int (nI 1), .int (nI ((zg_num tp ln 4 p 0).2))]) (rest := []) (q0 := 0) (ci := 2) Z ((ct_X2_emit l D g τ a kc kv kn km sz ns ln ((zg_num tp ln 4 p 0).1) ft CN XN 1 ((zg_num tp ln 4 p 0).2) (by exact hns)) H.size) hK hT hA G [0, 2, 3] rfl (by decide) rfl rfl gX2_readNumber_X2_emit rfl dvX2_emit ⟨by decide, by decide⟩ rfl hl.1 rfl (Nat.le_of_ble_eq_true rfl) dX2_readNumber_59 ⟨Nat.zero_le _, Nat.zero_le _⟩) hA G [0, 2, 3] [1] [1, 0, 2, 3] rfl rfl (by decide) (by decide) (by decide) (fun _ => rfl) (fun _ H locs w_59 G => ?_)
        exact zk_retv Z hR_ hlk hK hQ G () trivial rfl dX2_readNumber_62
      have c15 : 48 ≤ zg_c tp ln p1 := (zg_l_ge48 ht).mp c15
      have h0 : zg_c tp ln p1 ≠ 0 := by omega
      refine lv_aload_n Z.1 Z.2.1 dX2_readNumber_18 rfl (lv_at hl 0 rfl) ?_
      refine zk_ci (WF := fun (_ : Unit) => [(a 1, .inr (2, [.ref (a 10), .ref (a 11), .ref (a 12), .ref kc, .ref kv, .ref kn, .ref km, .int (nI sz), .int (nI ns), .int (nI ln), .int (nI p1), .int ft])), (a 11, .inl (g 0, 120, .inl (fun i => nI (tp i)))), (kn, .inl (g 0, 128, .inl (fun i => nI (CN i)))), (km, .inl (g 0, 128, .inl (fun i => nI (XN i))))]) (wr := [(kn, .inl (g 0, 128, .inl (fun i => nI (CN i)))), (km, .inl (g 0, 128, .inl (fun i => nI (XN i))))]) ⟨rfl, rfl⟩ (zk_rv (As := []) (rest := []) (q0 := 0) (ci := 2) Z ((ct_X2_letter l D g τ a kc kv kn km sz ns ln p1 ft tp (by exact hln) (by omega)) H.size) hK hT hA G [0, 1] rfl (by decide) rfl rfl gX2_readNumber_X2_letter rfl dvX2_letter ⟨by decide, by decide⟩ rfl hl.1 rfl (Nat.le_of_ble_eq_true rfl) dX2_readNumber_19 ⟨Nat.zero_le _, Nat.zero_le _⟩) hA G [0, 1] [2, 3] [2, 3, 0, 1] rfl rfl (by decide) (by decide) (by decide) (fun _ => rfl) (fun r_19 _ H locs w_19 G => ?_)
      obtain rfl : r_19 = zg_l tp ln p1 := w_19
      refine lv_bipush (v := nI 57) Z.1 Z.2.1 dX2_readNumber_22 (by decide +kernel) ?_
      refine lv_icmp_gt (tgt := 56) Z.1 Z.2.1 dX2_readNumber_24 (by decide) (fun c24 => ?_) (fun c24 => ?_)
      · have c24 : ¬ zg_c tp ln p1 ≤ 57 := fun q9 => (Int32.not_le.mpr c24) ((zg_l_le57 ht).mpr q9)
        have hE : (p1, v) = V := by simp only [zg_num] at hs; rw [if_neg (fun q9 => c24 q9.2)] at hs; exact hs
        rw [hV] at hE
        obtain ⟨rfl, rfl⟩ : p1 = (zg_num tp ln 4 p 0).1 ∧ v = (zg_num tp ln 4 p 0).2 := ⟨congrArg Prod.fst hE, congrArg Prod.snd hE⟩
        refine lv_aload_n Z.1 Z.2.1 dX2_readNumber_56 rfl (lv_at hl 0 rfl) ?_
        refine lv_iconst (v := nI 1) Z.1 Z.2.1 dX2_readNumber_57 (by decide +kernel) ?_
        refine lv_iload_n Z.1 Z.2.1 dX2_readNumber_58 rfl (lv_at hl 1 rfl) ?_
        refine zk_cv (WF := fun (_ : Unit) => [(a 1, .inr (2, [.ref (a 10), .ref (a 11), .ref (a 12), .ref kc, .ref kv, .ref kn, .ref km, .int (nI sz), .int (nI ((zg_em 1 ((zg_num tp ln 4 p 0).2) (ns, CN, XN)).1)), .int (nI ln), .int (nI ((zg_num tp ln 4 p 0).1)), .int ft])), (a 11, .inl (g 0, 120, .inl (fun i => nI (tp i)))), (kn, .inl (g 0, 128, .inl (fun i => nI ((zg_em 1 ((zg_num tp ln 4 p 0).2) (ns, CN, XN)).2.1 i)))), (km, .inl (g 0, 128, .inl (fun i => nI ((zg_em 1 ((zg_num tp ln 4 p 0).2) (ns, CN, XN)).2.2 i))))]) (wr := [(a 11, .inl (g 0, 120, .inl (fun i => nI (tp i))))]) ⟨rfl, rfl⟩ (zk_rv (As := [.int (nI 1), .int (nI ((zg_num tp ln 4 p 0).2))]) (rest := []) (q0 := 0) (ci := 2) Z ((ct_X2_emit l D g τ a kc kv kn km sz ns ln ((zg_num tp ln 4 p 0).1) ft CN XN 1 ((zg_num tp ln 4 p 0).2) (by exact hns)) H.size) hK hT hA G [0, 2, 3] rfl (by decide) rfl rfl gX2_readNumber_X2_emit rfl dvX2_emit ⟨by decide, by decide⟩ rfl hl.1 rfl (Nat.le_of_ble_eq_true rfl) dX2_readNumber_59 ⟨Nat.zero_le _, Nat.zero_le _⟩) hA G [0, 2, 3] [1] [1, 0, 2, 3] rfl rfl (by decide) (by decide) (by decide) (fun _ => rfl) (fun _ H locs w_59 G => ?_)
        exact zk_retv Z hR_ hlk hK hQ G () trivial rfl dX2_readNumber_62
      have c24 : zg_c tp ln p1 ≤ 57 := (zg_l_le57 ht).mp (Int32.not_lt.mp c24)
      refine lv_iload_n Z.1 Z.2.1 dX2_readNumber_27 rfl (lv_at hl 1 rfl) ?_
      refine lv_bipush (v := nI 10) Z.1 Z.2.1 dX2_readNumber_28 (by decide +kernel) ?_
      refine zk_imul Z dX2_readNumber_30 (z := nI (v * 10)) (pk_mul _ _) ?_
      refine lv_aload_n Z.1 Z.2.1 dX2_readNumber_31 rfl (lv_at hl 0 rfl) ?_
      refine zk_ci (WF := fun (_ : Unit) => [(a 1, .inr (2, [.ref (a 10), .ref (a 11), .ref (a 12), .ref kc, .ref kv, .ref kn, .ref km, .int (nI sz), .int (nI ns), .int (nI ln), .int (nI p1), .int ft])), (a 11, .inl (g 0, 120, .inl (fun i => nI (tp i)))), (kn, .inl (g 0, 128, .inl (fun i => nI (CN i)))), (km, .inl (g 0, 128, .inl (fun i => nI (XN i))))]) (wr := [(kn, .inl (g 0, 128, .inl (fun i => nI (CN i)))), (km, .inl (g 0, 128, .inl (fun i => nI (XN i))))]) ⟨rfl, rfl⟩ (zk_rv (As := []) (rest := [.int (nI (v * 10))]) (q0 := 0) (ci := 2) Z ((ct_X2_letter l D g τ a kc kv kn km sz ns ln p1 ft tp (by exact hln) (by omega)) H.size) hK hT hA G [0, 1] rfl (by decide) rfl rfl gX2_readNumber_X2_letter rfl dvX2_letter ⟨by decide, by decide⟩ rfl hl.1 rfl (Nat.le_of_ble_eq_true rfl) dX2_readNumber_32 ⟨Nat.zero_le _, Nat.zero_le _⟩) hA G [0, 1] [2, 3] [2, 3, 0, 1] rfl rfl (by decide) (by decide) (by decide) (fun _ => rfl) (fun r_32 _ H locs w_32 G => ?_)
      obtain rfl : r_32 = zg_l tp ln p1 := w_32
      refine zk_iadd Z dX2_readNumber_35 (z := nI (v * 10 + zg_c tp ln p1)) (by rw [zg_l_n h0]; exact nI_add _ _) ?_
      refine lv_bipush (v := nI 48) Z.1 Z.2.1 dX2_readNumber_36 (by decide +kernel) ?_
      refine zk_isub Z dX2_readNumber_38 (z := nI ((v * 10 + zg_c tp ln p1) - 48)) (pk_sub (by omega)) ?_
      refine lv_istore_n (lv' := [(1, .int (nI ((v * 10 + zg_c tp ln p1) - 48))), (0, .ref (a 1)), (2, .int (nI i))]) Z.1 Z.2.1 dX2_readNumber_39 rfl hl (by decide) rfl (fun ls hl => ?_)
      refine lv_aload_n Z.1 Z.2.1 dX2_readNumber_40 rfl (lv_at hl 1 rfl) ?_
      refine lv_dup Z.1 Z.2.1 dX2_readNumber_41 rfl ?_
      refine zk_get (C := RX2) (T := TX2) (N := 12) (ci := 2) Z hK G hinX2 0 rfl rfl 10 (by decide) (List.mem_of_getElem? (i := 1) rfl) rfl (v := .int (nI p1)) rfl dX2_readNumber_42 ?_
      refine lv_iconst (v := nI 1) Z.1 Z.2.1 dX2_readNumber_45 (by decide +kernel) ?_
      refine zk_iadd Z dX2_readNumber_46 (z := nI (p1 + 1)) (nI_add _ _) ?_
      refine zk_put tyX2 tyX2_ok nmX2 (C := RX2) (T := TX2) (N := 12) (ci := 2) Z hK G hinX2 0 rfl rfl 10 (by decide) (List.mem_of_getElem? (i := 1) rfl) rfl rfl rfl rfl (Nat.le_of_ble_eq_true rfl) (ws' := [(a 1, .inr (2, [.ref (a 10), .ref (a 11), .ref (a 12), .ref kc, .ref kv, .ref kn, .ref km, .int (nI sz), .int (nI ns), .int (nI ln), .int (nI (p1 + 1)), .int ft])), (a 11, .inl (g 0, 120, .inl (fun i => nI (tp i)))), (kn, .inl (g 0, 128, .inl (fun i => nI (CN i)))), (km, .inl (g 0, 128, .inl (fun i => nI (XN i))))]) rfl dX2_readNumber_47 (fun H locs G => ?_)
      refine lv_iinc (v := nI (i + 1)) (lv' := [(2, .int (nI (i + 1))), (1, .int (nI ((v * 10 + zg_c tp ln p1) - 48))), (0, .ref (a 1))]) Z.1 Z.2.1 dX2_readNumber_50 hl (k := 2) rfl (zk_inc i 1) (by decide) rfl (fun ls hl => ?_)
      refine lv_goto (tgt := 4) Z.1 Z.2.1 dX2_readNumber_53 (by decide) ?_
      exact ih4 (i + 1) (p1 + 1) ((v * 10 + zg_c tp ln p1) - 48) f9 (by omega) (by omega) (by exact zg_c_lt h0) (by simp only [zg_num] at hs; rw [if_pos ⟨c15, c24⟩] at hs; exact hs) _ _ _ G (lv_sub hl [2, 1, 0] rfl)
  exact L4 _ 0 p 0 4 (Nat.lt_succ_self _) (by omega) (by omega) (by exact hV.symm) _ _ _ G (lv_sub hl [2, 1, 0] rfl)

abbrev rm_X2_close : Room := { frames := 1, cells := 0, slots := 0, locals := 20 }
theorem dvX2_close : zk_dv yX2_close RX2 0 := by decide +kernel
set_option maxRecDepth 100000 in
set_option maxHeartbeats 1500000 in
theorem ct_X2_close (l : Launch) (D : va_G) (g : Nat → ClassId) (τ : Nat → Nat) (a : Nat → Nat) (kc : Nat) (kv : Nat) (kn : Nat) (km : Nat) (sz : Nat) (ns : Nat) (ln : Nat) (p : Nat) (ft : Int32) (tp : Nat → Nat) (hln : ln ≤ 120) (hp : p ≤ ln) (ht : ∀ i, tp i < 256) : zk_MV l D g τ yX2_close wsX2_close rm_X2_close [.ref (a 1)] [(a 1, .inr (2, [.ref (a 10), .ref (a 11), .ref (a 12), .ref kc, .ref kv, .ref kn, .ref km, .int (nI sz), .int (nI ns), .int (nI ln), .int (nI p), .int ft])), (a 11, .inl (g 0, 120, .inl (fun i => nI (tp i))))] (fun (_ : Unit) => True) (fun (_ : Unit) => [(a 1, .inr (2, [.ref (a 10), .ref (a 11), .ref (a 12), .ref kc, .ref kv, .ref kn, .ref km, .int (nI sz), .int (nI ns), .int (nI ln), .int (nI (if ft < 0 ∧ zg_c tp ln p = 41 then p + 1 else p)), .int (if ft < 0 ∧ ¬ zg_c tp ln p = 41 then nI p else ft)])), (a 11, .inl (g 0, 120, .inl (fun i => nI (tp i))))]) := by
  refine zk_of (Qc := fun A => va_Qv (fun (_ : Unit) => True) (zk_B D g A (fun (_ : Unit) => [(a 1, .inr (2, [.ref (a 10), .ref (a 11), .ref (a 12), .ref kc, .ref kv, .ref kn, .ref km, .int (nI sz), .int (nI ns), .int (nI ln), .int (nI (if ft < 0 ∧ zg_c tp ln p = 41 then p + 1 else p)), .int (if ft < 0 ∧ ¬ zg_c tp ln p = 41 then nI p else ft)])), (a 11, .inl (g 0, 120, .inl (fun i => nI (tp i))))])) A) (cc := cX2_close) (maxL := 1) (ret := none) (own := RX2) (by decide) rfl rfl (Nat.le_of_ble_eq_true rfl) ?_
  intro pP eE sS mM args below meth cC aA ls qQ Z hR_ hlk hnm hK hT hA hQ G hl
  have hinX2 : ∀ w ∈ u_ws RX2 TX2 12, w ∈ wsX2_close := (fun _ h => List.mem_cons_of_mem _ (List.mem_append_right _ h))
  refine lv_aload_n Z.1 Z.2.1 dX2_close_0 rfl (lv_at hl 0 rfl) ?_
  refine zk_get (C := RX2) (T := TX2) (N := 12) (ci := 2) Z hK G hinX2 0 rfl rfl 11 (by decide) (List.mem_of_getElem? (i := 1) rfl) rfl (v := .int ft) rfl dX2_close_1 ?_
  refine lv_if_lt (tgt := 8) Z.1 Z.2.1 dX2_close_4 (by decide) (fun c4 => ?_) (fun c4 => ?_)
  · have c4 : ft < 0 := c4
    refine lv_aload_n Z.1 Z.2.1 dX2_close_8 rfl (lv_at hl 0 rfl) ?_
    refine zk_ci (WF := fun (_ : Unit) => [(a 1, .inr (2, [.ref (a 10), .ref (a 11), .ref (a 12), .ref kc, .ref kv, .ref kn, .ref km, .int (nI sz), .int (nI ns), .int (nI ln), .int (nI p), .int ft])), (a 11, .inl (g 0, 120, .inl (fun i => nI (tp i))))]) (wr := []) ⟨rfl, rfl⟩ (zk_rv (As := []) (rest := []) (q0 := 0) (ci := 2) Z ((ct_X2_letter l D g τ a kc kv kn km sz ns ln p ft tp (by exact hln) (by omega)) sS.heap.size) hK hT hA G [0, 1] rfl (by decide) rfl rfl gX2_close_X2_letter rfl dvX2_letter ⟨by decide, by decide⟩ rfl hl.1 rfl (Nat.le_of_ble_eq_true rfl) dX2_close_9 ⟨Nat.zero_le _, Nat.zero_le _⟩) hA G [0, 1] [] [0, 1] rfl rfl (by decide) (by decide) (by decide) (fun _ => rfl) (fun r_9 _ H locs w_9 G => ?_)
    obtain rfl : r_9 = zg_l tp ln p := w_9
    refine lv_bipush (v := nI 41) Z.1 Z.2.1 dX2_close_12 (by decide +kernel) ?_
    refine lv_icmp_ne (tgt := 30) Z.1 Z.2.1 dX2_close_14 (by decide) (fun c14 => ?_) (fun c14 => ?_)
    · have c14 : ¬ zg_c tp ln p = 41 := fun q9 => c14 ((zg_l_eq ht (by decide) (by decide)).mpr q9)
      refine lv_aload_n Z.1 Z.2.1 dX2_close_30 rfl (lv_at hl 0 rfl) ?_
      refine lv_aload_n Z.1 Z.2.1 dX2_close_31 rfl (lv_at hl 0 rfl) ?_
      refine zk_get (C := RX2) (T := TX2) (N := 12) (ci := 2) Z hK G hinX2 0 rfl rfl 10 (by decide) (List.mem_of_getElem? (i := 2) rfl) rfl (v := .int (nI p)) rfl dX2_close_32 ?_
      refine zk_put tyX2 tyX2_ok nmX2 (C := RX2) (T := TX2) (N := 12) (ci := 2) Z hK G hinX2 0 rfl rfl 11 (by decide) (List.mem_of_getElem? (i := 1) rfl) rfl rfl rfl rfl (Nat.le_of_ble_eq_true rfl) (ws' := [(a 1, .inr (2, [.ref (a 10), .ref (a 11), .ref (a 12), .ref kc, .ref kv, .ref kn, .ref km, .int (nI sz), .int (nI ns), .int (nI ln), .int (nI p), .int (nI p)])), (a 11, .inl (g 0, 120, .inl (fun i => nI (tp i))))]) rfl dX2_close_35 (fun H locs G => ?_)
      exact zk_retv Z hR_ hlk hK hQ G () trivial (by rw [if_neg (fun q9 => c14 q9.2), if_pos ⟨c4, c14⟩]) dX2_close_38
    have c14 : zg_c tp ln p = 41 := (zg_l_eq ht (by decide) (by decide)).mp c14
    refine lv_aload_n Z.1 Z.2.1 dX2_close_17 rfl (lv_at hl 0 rfl) ?_
    refine lv_dup Z.1 Z.2.1 dX2_close_18 rfl ?_
    refine zk_get (C := RX2) (T := TX2) (N := 12) (ci := 2) Z hK G hinX2 0 rfl rfl 10 (by decide) (List.mem_of_getElem? (i := 2) rfl) rfl (v := .int (nI p)) rfl dX2_close_19 ?_
    refine lv_iconst (v := nI 1) Z.1 Z.2.1 dX2_close_22 (by decide +kernel) ?_
    refine zk_iadd Z dX2_close_23 (z := nI (p + 1)) (nI_add _ _) ?_
    refine zk_put tyX2 tyX2_ok nmX2 (C := RX2) (T := TX2) (N := 12) (ci := 2) Z hK G hinX2 0 rfl rfl 10 (by decide) (List.mem_of_getElem? (i := 2) rfl) rfl rfl rfl rfl (Nat.le_of_ble_eq_true rfl) (ws' := [(a 1, .inr (2, [.ref (a 10), .ref (a 11), .ref (a 12), .ref kc, .ref kv, .ref kn, .ref km, .int (nI sz), .int (nI ns), .int (nI ln), .int (nI (p + 1)), .int ft])), (a 11, .inl (g 0, 120, .inl (fun i => nI (tp i))))]) rfl dX2_close_24 (fun H locs G => ?_)
    refine lv_goto (tgt := 38) Z.1 Z.2.1 dX2_close_27 (by decide) ?_
    exact zk_retv Z hR_ hlk hK hQ G () trivial (by rw [if_pos ⟨c4, c14⟩, if_neg (fun q9 => q9.2 c14)]) dX2_close_38
  have c4 : ¬ ft < 0 := c4
  exact zk_retv Z hR_ hlk hK hQ G () trivial (by rw [if_neg (fun q9 => c4 q9.1), if_neg (fun q9 => c4 q9.1)]) dX2_close_7

abbrev rm_X2_readOne (d : Nat) : Room := { frames := 2 * d + 4, cells := 0, slots := 0, locals := 60 * d + 100 }
theorem dvX2_readOne : zk_dv yX2_readOne RX2 1 := by decide +kernel
abbrev rm_X2_readPart (d : Nat) : Room := { frames := 2 * d + 5, cells := 0, slots := 0, locals := 60 * d + 130 }
theorem dvX2_readPart : zk_dv yX2_readPart RX2 2 := by decide +kernel
def zg_MO (l : Launch) (D : va_G) (g : Nat → ClassId) (τ : Nat → Nat) (d : Nat) : Prop := ∀ (a : Nat → Nat) (kc : Nat) (kv : Nat) (kn : Nat) (km : Nat) (sz : Nat) (ns : Nat) (ln : Nat) (p : Nat) (tp : Nat → Nat) (CN : Nat → Nat) (XN : Nat → Nat) (op : Nat), (ln ≤ 120) → (p ≤ ln) → (∀ i, tp i < 256) → (ns ≤ 128) → (6 * (7 - op) ≤ d + 5) → (op ≤ 6) → zk_MV l D g τ yX2_readOne wsX2_readOne (rm_X2_readOne d) [.ref (a 1), .int (nI op)] [(a 1, .inr (2, [.ref (a 10), .ref (a 11), .ref (a 12), .ref kc, .ref kv, .ref kn, .ref km, .int (nI sz), .int (nI ns), .int (nI ln), .int (nI p), .int (-1)])), (a 11, .inl (g 0, 120, .inl (fun i => nI (tp i)))), (kn, .inl (g 0, 128, .inl (fun i => nI (CN i)))), (km, .inl (g 0, 128, .inl (fun i => nI (XN i))))] (fun (uu : Nat × Int32 × Nat × (Nat → Nat) × (Nat → Nat)) => zg_post (zg tp ln zg_em d 5 op p (ns, CN, XN)) uu.1 uu.2.1 (uu.2.2.1, uu.2.2.2.1, uu.2.2.2.2) ∧ uu.2.2.1 ≤ 128) (fun (uu : Nat × Int32 × Nat × (Nat → Nat) × (Nat → Nat)) => [(a 1, .inr (2, [.ref (a 10), .ref (a 11), .ref (a 12), .ref kc, .ref kv, .ref kn, .ref km, .int (nI sz), .int (nI uu.2.2.1), .int (nI ln), .int (nI uu.1), .int uu.2.1])), (a 11, .inl (g 0, 120, .inl (fun i => nI (tp i)))), (kn, .inl (g 0, 128, .inl (fun i => nI (uu.2.2.2.1 i)))), (km, .inl (g 0, 128, .inl (fun i => nI (uu.2.2.2.2 i))))])
def zg_MP (l : Launch) (D : va_G) (g : Nat → ClassId) (τ : Nat → Nat) (d : Nat) : Prop := ∀ (a : Nat → Nat) (kc : Nat) (kv : Nat) (kn : Nat) (km : Nat) (sz : Nat) (ns : Nat) (ln : Nat) (p : Nat) (tp : Nat → Nat) (CN : Nat → Nat) (XN : Nat → Nat) (lev : Nat) (op : Nat), (ln ≤ 120) → (p ≤ ln) → (∀ i, tp i < 256) → (ns ≤ 128) → (6 * (7 - op) ≤ d + lev) → (lev ≤ 5) → (op ≤ 6) → zk_MV l D g τ yX2_readPart wsX2_readPart (rm_X2_readPart d) [.ref (a 1), .int (nI lev), .int (nI op)] [(a 1, .inr (2, [.ref (a 10), .ref (a 11), .ref (a 12), .ref kc, .ref kv, .ref kn, .ref km, .int (nI sz), .int (nI ns), .int (nI ln), .int (nI p), .int (-1)])), (a 11, .inl (g 0, 120, .inl (fun i => nI (tp i)))), (kn, .inl (g 0, 128, .inl (fun i => nI (CN i)))), (km, .inl (g 0, 128, .inl (fun i => nI (XN i))))] (fun (uu : Nat × Int32 × Nat × (Nat → Nat) × (Nat → Nat)) => zg_post (zg tp ln zg_em d lev op p (ns, CN, XN)) uu.1 uu.2.1 (uu.2.2.1, uu.2.2.2.1, uu.2.2.2.2) ∧ uu.2.2.1 ≤ 128) (fun (uu : Nat × Int32 × Nat × (Nat → Nat) × (Nat → Nat)) => [(a 1, .inr (2, [.ref (a 10), .ref (a 11), .ref (a 12), .ref kc, .ref kv, .ref kn, .ref km, .int (nI sz), .int (nI uu.2.2.1), .int (nI ln), .int (nI uu.1), .int uu.2.1])), (a 11, .inl (g 0, 120, .inl (fun i => nI (tp i)))), (kn, .inl (g 0, 128, .inl (fun i => nI (uu.2.2.2.1 i)))), (km, .inl (g 0, 128, .inl (fun i => nI (uu.2.2.2.2 i))))])
set_option maxRecDepth 100000 in
set_option maxHeartbeats 4000000 in
theorem ct_X2_readOne_s (l : Launch) (D : va_G) (g : Nat → ClassId) (τ : Nat → Nat) (d : Nat) (ihP : zg_MP l D g τ d) (ihO : zg_MO l D g τ d) : zg_MO l D g τ (d + 1) := by
  intro a kc kv kn km sz ns ln p tp CN XN op hln hp ht hns hd hop
  refine zk_of (Qc := fun A => va_Qv (fun (uu : Nat × Int32 × Nat × (Nat → Nat) × (Nat → Nat)) => zg_post (zg tp ln zg_em (d + 1) 5 op p (ns, CN, XN)) uu.1 uu.2.1 (uu.2.2.1, uu.2.2.2.1, uu.2.2.2.2) ∧ uu.2.2.1 ≤ 128) (zk_B D g A (fun (uu : Nat × Int32 × Nat × (Nat → Nat) × (Nat → Nat)) => [(a 1, .inr (2, [.ref (a 10), .ref (a 11), .ref (a 12), .ref kc, .ref kv, .ref kn, .ref km, .int (nI sz), .int (nI uu.2.2.1), .int (nI ln), .int (nI uu.1), .int uu.2.1])), (a 11, .inl (g 0, 120, .inl (fun i => nI (tp i)))), (kn, .inl (g 0, 128, .inl (fun i => nI (uu.2.2.2.1 i)))), (km, .inl (g 0, 128, .inl (fun i => nI (uu.2.2.2.2 i))))])) A) (cc := cX2_readOne) (maxL := 3) (ret := none) (own := RX2) (by decide) rfl rfl (Nat.le_of_ble_eq_true rfl) ?_
  intro pP eE sS mM args below meth cC aA ls qQ Z hR_ hlk hnm hK hT hA hQ G hl
  have hinX2 : ∀ w ∈ u_ws RX2 TX2 12, w ∈ wsX2_readOne := (fun _ h => List.mem_cons_of_mem _ (List.mem_append_right _ h))
  refine lv_aload_n Z.1 Z.2.1 dX2_readOne_0 rfl (lv_at hl 0 rfl) ?_
  refine zk_ci (WF := fun (_ : Unit) => [(a 1, .inr (2, [.ref (a 10), .ref (a 11), .ref (a 12), .ref kc, .ref kv, .ref kn, .ref km, .int (nI sz), .int (nI ns), .int (nI ln), .int (nI p), .int (-1)])), (a 11, .inl (g 0, 120, .inl (fun i => nI (tp i)))), (kn, .inl (g 0, 128, .inl (fun i => nI (CN i)))), (km, .inl (g 0, 128, .inl (fun i => nI (XN i))))]) (wr := [(kn, .inl (g 0, 128, .inl (fun i => nI (CN i)))), (km, .inl (g 0, 128, .inl (fun i => nI (XN i))))]) ⟨rfl, rfl⟩ (zk_rv (As := []) (rest := []) (q0 := 0) (ci := 2) Z ((ct_X2_letter l D g τ a kc kv kn km sz ns ln p (-1) tp (by exact hln) (by omega)) sS.heap.size) hK hT hA G [0, 1] rfl (by decide) rfl rfl gX2_readOne_X2_letter rfl dvX2_letter ⟨by first | decide | (simp only [rm_X2_readPart, rm_X2_readOne]; omega), by first | decide | (simp only [rm_X2_readPart, rm_X2_readOne]; omega)⟩ rfl hl.1 rfl (Nat.le_of_ble_eq_true rfl) dX2_readOne_1 ⟨Nat.zero_le _, Nat.zero_le _⟩) hA G [0, 1] [2, 3] [2, 3, 0, 1] rfl rfl (by decide) (by decide) (by decide) (fun _ => rfl) (fun r_1 _ H locs w_1 G => ?_)
  obtain rfl : r_1 = zg_l tp ln p := w_1
  refine lv_istore_n (lv' := [(2, .int (zg_l tp ln p)), (0, .ref (a 1)), (1, .int (nI op))]) Z.1 Z.2.1 dX2_readOne_4 rfl hl (by decide) rfl (fun ls hl => ?_)
  refine lv_iload_n Z.1 Z.2.1 dX2_readOne_5 rfl (lv_at hl 0 rfl) ?_
  refine lv_bipush (v := nI 48) Z.1 Z.2.1 dX2_readOne_6 (by decide +kernel) ?_
  refine lv_icmp_lt (tgt := 24) Z.1 Z.2.1 dX2_readOne_8 (by decide) (fun c8 => ?_) (fun c8 => ?_)
  · have c8 : ¬ 48 ≤ zg_c tp ln p := fun q9 => (zg_l_ge48 ht).mpr q9 c8
    have hdg : ¬ (48 ≤ zg_c tp ln p ∧ zg_c tp ln p ≤ 57) := fun q9 => c8 q9.1
    refine lv_iload_n Z.1 Z.2.1 dX2_readOne_24 rfl (lv_at hl 0 rfl) ?_
    refine zk_ci (WF := fun (_ : Unit) => [(a 1, .inr (2, [.ref (a 10), .ref (a 11), .ref (a 12), .ref kc, .ref kv, .ref kn, .ref km, .int (nI sz), .int (nI ns), .int (nI ln), .int (nI p), .int (-1)])), (a 11, .inl (g 0, 120, .inl (fun i => nI (tp i)))), (kn, .inl (g 0, 128, .inl (fun i => nI (CN i)))), (km, .inl (g 0, 128, .inl (fun i => nI (XN i))))]) (wr := [(a 1, .inr (2, [.ref (a 10), .ref (a 11), .ref (a 12), .ref kc, .ref kv, .ref kn, .ref km, .int (nI sz), .int (nI ns), .int (nI ln), .int (nI p), .int (-1)])), (a 11, .inl (g 0, 120, .inl (fun i => nI (tp i)))), (kn, .inl (g 0, 128, .inl (fun i => nI (CN i)))), (km, .inl (g 0, 128, .inl (fun i => nI (XN i))))]) ⟨rfl, rfl⟩ (zk_rs (As := [.int (zg_l tp ln p)]) (rest := []) Z ((ct_X2_nameOf l D g τ (zg_l tp ln p) ) H.size) hK hT hA G [] rfl (by decide) gX2_readOne_X2_nameOf rfl dvX2_nameOf ⟨by first | decide | (simp only [rm_X2_readPart, rm_X2_readOne]; omega), by first | decide | (simp only [rm_X2_readPart, rm_X2_readOne]; omega)⟩ rfl hl.1 rfl (Nat.le_of_ble_eq_true rfl) dX2_readOne_25 ⟨Nat.zero_le _, Nat.zero_le _⟩) hA G [] [0, 1, 2, 3] [0, 1, 2, 3] rfl rfl (by decide) (by decide) (by decide) (fun _ => rfl) (fun r_25 _ H locs w_25 G => ?_)
    obtain rfl : r_25 = zg_ni (zg_l tp ln p) := w_25
    refine lv_if_lt (tgt := 53) Z.1 Z.2.1 dX2_readOne_28 (by decide) (fun c28 => ?_) (fun c28 => ?_)
    · have hnm9 : ¬ zg_nam (zg_c tp ln p) < 6 := fun q9 => by rw [zg_ni_n ht, if_pos q9] at c28; exact absurd c28 (nI_pos (by omega))
      refine lv_iload_n Z.1 Z.2.1 dX2_readOne_53 rfl (lv_at hl 2 rfl) ?_
      refine lv_bipush (v := nI 6) Z.1 Z.2.1 dX2_readOne_54 (by decide +kernel) ?_
      refine lv_icmp_ge (tgt := 77) Z.1 Z.2.1 dX2_readOne_56 (by decide) (fun c56 => ?_) (fun c56 => ?_)
      · have c56 : 6 ≤ op := zk_le (by omega) (by omega) c56
        have hbad : 6 ≤ op ∨ ¬ (zg_c tp ln p = 40 ∨ zg_c tp ln p = 33 ∨ zg_c tp ln p = 45) := Or.inl c56
        refine lv_aload_n Z.1 Z.2.1 dX2_readOne_77 rfl (lv_at hl 1 rfl) ?_
        refine lv_aload_n Z.1 Z.2.1 dX2_readOne_78 rfl (lv_at hl 1 rfl) ?_
        refine zk_get (C := RX2) (T := TX2) (N := 12) (ci := 2) Z hK G hinX2 0 rfl rfl 10 (by decide) (List.mem_of_getElem? (i := 1) rfl) rfl (v := .int (nI p)) rfl dX2_readOne_79 ?_
        refine zk_put tyX2 tyX2_ok nmX2 (C := RX2) (T := TX2) (N := 12) (ci := 2) Z hK G hinX2 0 rfl rfl 11 (by decide) (List.mem_of_getElem? (i := 2) rfl) rfl rfl rfl rfl (Nat.le_of_ble_eq_true rfl) (ws' := [(a 1, .inr (2, [.ref (a 10), .ref (a 11), .ref (a 12), .ref kc, .ref kv, .ref kn, .ref km, .int (nI sz), .int (nI ns), .int (nI ln), .int (nI p), .int (nI p)])), (a 11, .inl (g 0, 120, .inl (fun i => nI (tp i)))), (kn, .inl (g 0, 128, .inl (fun i => nI (CN i)))), (km, .inl (g 0, 128, .inl (fun i => nI (XN i))))]) rfl dX2_readOne_82 (fun H locs G => ?_)
        refine lv_goto (tgt := 153) Z.1 Z.2.1 dX2_readOne_85 (by decide) ?_
        exact zk_retv Z hR_ hlk hK hQ G (p, nI p, ns, CN, XN) ⟨(by simp only [zg]; rw [if_neg (by decide), if_neg hdg, if_neg hnm9, if_pos hbad]; exact ⟨rfl, rfl⟩), hns⟩ rfl dX2_readOne_153
      have c56 : op < 6 := zk_nle (by omega) (by omega) c56
      refine lv_iload_n Z.1 Z.2.1 dX2_readOne_59 rfl (lv_at hl 0 rfl) ?_
      refine lv_bipush (v := nI 40) Z.1 Z.2.1 dX2_readOne_60 (by decide +kernel) ?_
      refine lv_icmp_eq (tgt := 88) Z.1 Z.2.1 dX2_readOne_62 (by decide) (fun c62 => ?_) (fun c62 => ?_)
      · have c62 : zg_c tp ln p = 40 := (zg_l_eq ht (by decide) (by decide)).mp c62
        have hgood : ¬ (6 ≤ op ∨ ¬ (zg_c tp ln p = 40 ∨ zg_c tp ln p = 33 ∨ zg_c tp ln p = 45)) := by omega
        have hpl : p < ln := zg_c_lt (tp := tp) (by omega)
        refine lv_iload_n Z.1 Z.2.1 dX2_readOne_88 rfl (lv_at hl 0 rfl) ?_
        refine lv_bipush (v := nI 40) Z.1 Z.2.1 dX2_readOne_89 (by decide +kernel) ?_
        refine lv_icmp_ne (tgt := 119) Z.1 Z.2.1 dX2_readOne_91 (by decide) (fun c91 => ?_) (fun c91 => ?_)
        · exfalso
          have c91 : ¬ zg_c tp ln p = 40 := fun q9 => c91 ((zg_l_eq ht (by decide) (by decide)).mpr q9)
          omega
        have c91 : zg_c tp ln p = 40 := (zg_l_eq ht (by decide) (by decide)).mp c91
        refine lv_aload_n Z.1 Z.2.1 dX2_readOne_94 rfl (lv_at hl 1 rfl) ?_
        refine lv_dup Z.1 Z.2.1 dX2_readOne_95 rfl ?_
        refine zk_get (C := RX2) (T := TX2) (N := 12) (ci := 2) Z hK G hinX2 0 rfl rfl 10 (by decide) (List.mem_of_getElem? (i := 1) rfl) rfl (v := .int (nI p)) rfl dX2_readOne_96 ?_
        refine lv_iconst (v := nI 1) Z.1 Z.2.1 dX2_readOne_99 (by decide +kernel) ?_
        refine zk_iadd Z dX2_readOne_100 (z := nI (p + 1)) (nI_add _ _) ?_
        refine zk_put tyX2 tyX2_ok nmX2 (C := RX2) (T := TX2) (N := 12) (ci := 2) Z hK G hinX2 0 rfl rfl 10 (by decide) (List.mem_of_getElem? (i := 1) rfl) rfl rfl rfl rfl (Nat.le_of_ble_eq_true rfl) (ws' := [(a 1, .inr (2, [.ref (a 10), .ref (a 11), .ref (a 12), .ref kc, .ref kv, .ref kn, .ref km, .int (nI sz), .int (nI ns), .int (nI ln), .int (nI (p + 1)), .int (-1)])), (a 11, .inl (g 0, 120, .inl (fun i => nI (tp i)))), (kn, .inl (g 0, 128, .inl (fun i => nI (CN i)))), (km, .inl (g 0, 128, .inl (fun i => nI (XN i))))]) rfl dX2_readOne_101 (fun H locs G => ?_)
        refine lv_aload_n Z.1 Z.2.1 dX2_readOne_104 rfl (lv_at hl 1 rfl) ?_
        refine lv_iconst (v := nI 0) Z.1 Z.2.1 dX2_readOne_105 (by decide +kernel) ?_
        refine lv_iload_n Z.1 Z.2.1 dX2_readOne_106 rfl (lv_at hl 2 rfl) ?_
        refine lv_iconst (v := nI 1) Z.1 Z.2.1 dX2_readOne_107 (by decide +kernel) ?_
        refine zk_iadd Z dX2_readOne_108 (z := nI (op + 1)) (nI_add _ _) ?_
        refine zk_cv (WF := fun uu => [(a 1, .inr (2, [.ref (a 10), .ref (a 11), .ref (a 12), .ref kc, .ref kv, .ref kn, .ref km, .int (nI sz), .int (nI uu.2.2.1), .int (nI ln), .int (nI uu.1), .int uu.2.1])), (a 11, .inl (g 0, 120, .inl (fun i => nI (tp i)))), (kn, .inl (g 0, 128, .inl (fun i => nI (uu.2.2.2.1 i)))), (km, .inl (g 0, 128, .inl (fun i => nI (uu.2.2.2.2 i))))]) (wr := []) ⟨rfl, rfl⟩ (zk_rv (As := [.int (nI 0), .int (nI (op + 1))]) (rest := []) (q0 := 0) (ci := 2) Z ((ihP a kc kv kn km sz ns ln (p + 1) tp CN XN 0 (op + 1) (by exact hln) (by omega) (by exact ht) (by exact hns) (by omega) (by omega) (by omega)) H.size) hK hT hA G [0, 1, 2, 3] rfl (by decide) rfl rfl gX2_readOne_X2_readPart rfl dvX2_readPart ⟨by first | decide | (simp only [rm_X2_readPart, rm_X2_readOne]; omega), by first | decide | (simp only [rm_X2_readPart, rm_X2_readOne]; omega)⟩ rfl hl.1 rfl (Nat.le_of_ble_eq_true rfl) dX2_readOne_109 ⟨Nat.zero_le _, Nat.zero_le _⟩) hA G [0, 1, 2, 3] [] [0, 1, 2, 3] rfl rfl (by decide) (by decide) (by decide) (fun _ => rfl) (fun uu H locs w_109 G => ?_)
        obtain ⟨p1_109, ft1_109, ns1_109, C1_109, X1_109⟩ := uu
        have G : zk_G D aA [(a 1, .inr (2, [.ref (a 10), .ref (a 11), .ref (a 12), .ref kc, .ref kv, .ref kn, .ref km, .int (nI sz), .int (nI ns1_109), .int (nI ln), .int (nI p1_109), .int ft1_109])), (a 11, .inl (g 0, 120, .inl (fun i => nI (tp i)))), (kn, .inl (g 0, 128, .inl (fun i => nI (C1_109 i)))), (km, .inl (g 0, 128, .inl (fun i => nI (X1_109 i))))] sS H locs := G
        have zb_109 := zg_le (em := zg_em) (ln := ln) ht (d) (0) (op + 1) (p + 1) ((ns, CN, XN)) (by omega) (by omega) (by omega) (by omega)
        obtain ⟨w_109, hns_109⟩ := w_109
        have hns_109 : ns1_109 ≤ 128 := hns_109
        rcases hz_109 : zg tp ln zg_em d 0 (op + 1) (p + 1) (ns, CN, XN) with e | ⟨a9, n9, C9, X9⟩
        · obtain ⟨h1_109, h2_109⟩ := zg_pl w_109 hz_109
          obtain rfl : p1_109 = e := h1_109
          obtain rfl : ft1_109 = nI p1_109 := h2_109
          have hb_109 := zb_109
          rw [hz_109] at hb_109
          have hp_109 : p1_109 ≤ ln := hb_109.2
          refine lv_aload_n Z.1 Z.2.1 dX2_readOne_112 rfl (lv_at hl 1 rfl) ?_
          refine zk_cv (WF := fun (_ : Unit) => [(a 1, .inr (2, [.ref (a 10), .ref (a 11), .ref (a 12), .ref kc, .ref kv, .ref kn, .ref km, .int (nI sz), .int (nI ns1_109), .int (nI ln), .int (nI (if (nI p1_109) < 0 ∧ zg_c tp ln p1_109 = 41 then p1_109 + 1 else p1_109)), .int (if (nI p1_109) < 0 ∧ ¬ zg_c tp ln p1_109 = 41 then nI p1_109 else (nI p1_109))])), (a 11, .inl (g 0, 120, .inl (fun i => nI (tp i)))), (kn, .inl (g 0, 128, .inl (fun i => nI (C1_109 i)))), (km, .inl (g 0, 128, .inl (fun i => nI (X1_109 i))))]) (wr := [(kn, .inl (g 0, 128, .inl (fun i => nI (C1_109 i)))), (km, .inl (g 0, 128, .inl (fun i => nI (X1_109 i))))]) ⟨rfl, rfl⟩ (zk_rv (As := []) (rest := []) (q0 := 0) (ci := 2) Z ((ct_X2_close l D g τ a kc kv kn km sz ns1_109 ln p1_109 (nI p1_109) tp (by exact hln) (by omega) (by exact ht)) H.size) hK hT hA G [0, 1] rfl (by decide) rfl rfl gX2_readOne_X2_close rfl dvX2_close ⟨by first | decide | (simp only [rm_X2_readPart, rm_X2_readOne]; omega), by first | decide | (simp only [rm_X2_readPart, rm_X2_readOne]; omega)⟩ rfl hl.1 rfl (Nat.le_of_ble_eq_true rfl) dX2_readOne_113 ⟨Nat.zero_le _, Nat.zero_le _⟩) hA G [0, 1] [2, 3] [2, 3, 0, 1] rfl rfl (by decide) (by decide) (by decide) (fun _ => rfl) (fun _ H locs w_113 G => ?_)
          have G : zk_G D aA [(a 1, .inr (2, [.ref (a 10), .ref (a 11), .ref (a 12), .ref kc, .ref kv, .ref kn, .ref km, .int (nI sz), .int (nI ns1_109), .int (nI ln), .int (nI p1_109), .int (nI p1_109)])), (a 11, .inl (g 0, 120, .inl (fun i => nI (tp i)))), (kn, .inl (g 0, 128, .inl (fun i => nI (C1_109 i)))), (km, .inl (g 0, 128, .inl (fun i => nI (X1_109 i))))] sS H locs := (by rw [if_neg (fun q9 => nI_pos (by omega) q9.1), if_neg (fun q9 => nI_pos (by omega) q9.1)] at G; exact G)
          refine lv_goto (tgt := 153) Z.1 Z.2.1 dX2_readOne_116 (by decide) ?_
          exact zk_retv Z hR_ hlk hK hQ G (p1_109, nI p1_109, ns1_109, C1_109, X1_109) ⟨(by simp only [zg]; rw [if_neg (by decide), if_neg hdg, if_neg hnm9, if_neg hgood, if_pos c91, hz_109]; exact ⟨rfl, rfl⟩), hns_109⟩ rfl dX2_readOne_153
        · obtain ⟨h1_109, h2_109, h3_109⟩ := zg_pr w_109 hz_109
          obtain rfl : p1_109 = a9 := h1_109
          obtain rfl : ft1_109 = -1 := h2_109
          obtain ⟨rfl, rfl, rfl⟩ : ns1_109 = n9 ∧ C1_109 = C9 ∧ X1_109 = X9 := by
            have h4 := h3_109
            simp only [Prod.mk.injEq] at h4
            exact h4
          have hb_109 := zb_109
          rw [hz_109] at hb_109
          have hp_109 : p1_109 ≤ ln := hb_109.2
          refine lv_aload_n Z.1 Z.2.1 dX2_readOne_112 rfl (lv_at hl 1 rfl) ?_
          refine zk_cv (WF := fun (_ : Unit) => [(a 1, .inr (2, [.ref (a 10), .ref (a 11), .ref (a 12), .ref kc, .ref kv, .ref kn, .ref km, .int (nI sz), .int (nI ns1_109), .int (nI ln), .int (nI (if (-1) < 0 ∧ zg_c tp ln p1_109 = 41 then p1_109 + 1 else p1_109)), .int (if (-1) < 0 ∧ ¬ zg_c tp ln p1_109 = 41 then nI p1_109 else (-1))])), (a 11, .inl (g 0, 120, .inl (fun i => nI (tp i)))), (kn, .inl (g 0, 128, .inl (fun i => nI (C1_109 i)))), (km, .inl (g 0, 128, .inl (fun i => nI (X1_109 i))))]) (wr := [(kn, .inl (g 0, 128, .inl (fun i => nI (C1_109 i)))), (km, .inl (g 0, 128, .inl (fun i => nI (X1_109 i))))]) ⟨rfl, rfl⟩ (zk_rv (As := []) (rest := []) (q0 := 0) (ci := 2) Z ((ct_X2_close l D g τ a kc kv kn km sz ns1_109 ln p1_109 (-1) tp (by exact hln) (by omega) (by exact ht)) H.size) hK hT hA G [0, 1] rfl (by decide) rfl rfl gX2_readOne_X2_close rfl dvX2_close ⟨by first | decide | (simp only [rm_X2_readPart, rm_X2_readOne]; omega), by first | decide | (simp only [rm_X2_readPart, rm_X2_readOne]; omega)⟩ rfl hl.1 rfl (Nat.le_of_ble_eq_true rfl) dX2_readOne_113 ⟨Nat.zero_le _, Nat.zero_le _⟩) hA G [0, 1] [2, 3] [2, 3, 0, 1] rfl rfl (by decide) (by decide) (by decide) (fun _ => rfl) (fun _ H locs w_113 G => ?_)
          by_cases h41 : zg_c tp ln p1_109 = 41
          · have G : zk_G D aA [(a 1, .inr (2, [.ref (a 10), .ref (a 11), .ref (a 12), .ref kc, .ref kv, .ref kn, .ref km, .int (nI sz), .int (nI ns1_109), .int (nI ln), .int (nI (p1_109 + 1)), .int (-1)])), (a 11, .inl (g 0, 120, .inl (fun i => nI (tp i)))), (kn, .inl (g 0, 128, .inl (fun i => nI (C1_109 i)))), (km, .inl (g 0, 128, .inl (fun i => nI (X1_109 i))))] sS H locs := (by rw [if_pos ⟨by decide, h41⟩, if_neg (fun q9 => q9.2 h41)] at G; exact G)
            refine lv_goto (tgt := 153) Z.1 Z.2.1 dX2_readOne_116 (by decide) ?_
            exact zk_retv Z hR_ hlk hK hQ G (p1_109 + 1, -1, ns1_109, C1_109, X1_109) ⟨(by simp only [zg]; rw [if_neg (by decide), if_neg hdg, if_neg hnm9, if_neg hgood, if_pos c91, hz_109]; simp only; rw [if_pos h41]; exact ⟨rfl, rfl, rfl⟩), hns_109⟩ rfl dX2_readOne_153
          have G : zk_G D aA [(a 1, .inr (2, [.ref (a 10), .ref (a 11), .ref (a 12), .ref kc, .ref kv, .ref kn, .ref km, .int (nI sz), .int (nI ns1_109), .int (nI ln), .int (nI p1_109), .int (nI p1_109)])), (a 11, .inl (g 0, 120, .inl (fun i => nI (tp i)))), (kn, .inl (g 0, 128, .inl (fun i => nI (C1_109 i)))), (km, .inl (g 0, 128, .inl (fun i => nI (X1_109 i))))] sS H locs := (by rw [if_neg (fun q9 => h41 q9.2), if_pos ⟨by decide, h41⟩] at G; exact G)
          refine lv_goto (tgt := 153) Z.1 Z.2.1 dX2_readOne_116 (by decide) ?_
          exact zk_retv Z hR_ hlk hK hQ G (p1_109, nI p1_109, ns1_109, C1_109, X1_109) ⟨(by simp only [zg]; rw [if_neg (by decide), if_neg hdg, if_neg hnm9, if_neg hgood, if_pos c91, hz_109]; simp only; rw [if_neg h41]; exact ⟨rfl, rfl⟩), hns_109⟩ rfl dX2_readOne_153
      have c62 : ¬ zg_c tp ln p = 40 := fun q9 => c62 ((zg_l_eq ht (by decide) (by decide)).mpr q9)
      refine lv_iload_n Z.1 Z.2.1 dX2_readOne_65 rfl (lv_at hl 0 rfl) ?_
      refine lv_bipush (v := nI 33) Z.1 Z.2.1 dX2_readOne_66 (by decide +kernel) ?_
      refine lv_icmp_eq (tgt := 88) Z.1 Z.2.1 dX2_readOne_68 (by decide) (fun c68 => ?_) (fun c68 => ?_)
      · have c68 : zg_c tp ln p = 33 := (zg_l_eq ht (by decide) (by decide)).mp c68
        have hgood : ¬ (6 ≤ op ∨ ¬ (zg_c tp ln p = 40 ∨ zg_c tp ln p = 33 ∨ zg_c tp ln p = 45)) := by omega
        have hpl : p < ln := zg_c_lt (tp := tp) (by omega)
        refine lv_iload_n Z.1 Z.2.1 dX2_readOne_88 rfl (lv_at hl 0 rfl) ?_
        refine lv_bipush (v := nI 40) Z.1 Z.2.1 dX2_readOne_89 (by decide +kernel) ?_
        refine lv_icmp_ne (tgt := 119) Z.1 Z.2.1 dX2_readOne_91 (by decide) (fun c91 => ?_) (fun c91 => ?_)
        · have c91 : ¬ zg_c tp ln p = 40 := fun q9 => c91 ((zg_l_eq ht (by decide) (by decide)).mpr q9)
          refine lv_aload_n Z.1 Z.2.1 dX2_readOne_119 rfl (lv_at hl 1 rfl) ?_
          refine lv_dup Z.1 Z.2.1 dX2_readOne_120 rfl ?_
          refine zk_get (C := RX2) (T := TX2) (N := 12) (ci := 2) Z hK G hinX2 0 rfl rfl 10 (by decide) (List.mem_of_getElem? (i := 1) rfl) rfl (v := .int (nI p)) rfl dX2_readOne_121 ?_
          refine lv_iconst (v := nI 1) Z.1 Z.2.1 dX2_readOne_124 (by decide +kernel) ?_
          refine zk_iadd Z dX2_readOne_125 (z := nI (p + 1)) (nI_add _ _) ?_
          refine zk_put tyX2 tyX2_ok nmX2 (C := RX2) (T := TX2) (N := 12) (ci := 2) Z hK G hinX2 0 rfl rfl 10 (by decide) (List.mem_of_getElem? (i := 1) rfl) rfl rfl rfl rfl (Nat.le_of_ble_eq_true rfl) (ws' := [(a 1, .inr (2, [.ref (a 10), .ref (a 11), .ref (a 12), .ref kc, .ref kv, .ref kn, .ref km, .int (nI sz), .int (nI ns), .int (nI ln), .int (nI (p + 1)), .int (-1)])), (a 11, .inl (g 0, 120, .inl (fun i => nI (tp i)))), (kn, .inl (g 0, 128, .inl (fun i => nI (CN i)))), (km, .inl (g 0, 128, .inl (fun i => nI (XN i))))]) rfl dX2_readOne_126 (fun H locs G => ?_)
          refine lv_aload_n Z.1 Z.2.1 dX2_readOne_129 rfl (lv_at hl 1 rfl) ?_
          refine lv_iload_n Z.1 Z.2.1 dX2_readOne_130 rfl (lv_at hl 2 rfl) ?_
          refine lv_iconst (v := nI 1) Z.1 Z.2.1 dX2_readOne_131 (by decide +kernel) ?_
          refine zk_iadd Z dX2_readOne_132 (z := nI (op + 1)) (nI_add _ _) ?_
          refine zk_cv (WF := fun uu => [(a 1, .inr (2, [.ref (a 10), .ref (a 11), .ref (a 12), .ref kc, .ref kv, .ref kn, .ref km, .int (nI sz), .int (nI uu.2.2.1), .int (nI ln), .int (nI uu.1), .int uu.2.1])), (a 11, .inl (g 0, 120, .inl (fun i => nI (tp i)))), (kn, .inl (g 0, 128, .inl (fun i => nI (uu.2.2.2.1 i)))), (km, .inl (g 0, 128, .inl (fun i => nI (uu.2.2.2.2 i))))]) (wr := []) ⟨rfl, rfl⟩ (zk_rv (As := [.int (nI (op + 1))]) (rest := []) (q0 := 0) (ci := 2) Z ((ihO a kc kv kn km sz ns ln (p + 1) tp CN XN (op + 1) (by exact hln) (by omega) (by exact ht) (by exact hns) (by omega) (by omega)) H.size) hK hT hA G [0, 1, 2, 3] rfl (by decide) rfl rfl gX2_readOne_X2_readOne rfl dvX2_readOne ⟨by first | decide | (simp only [rm_X2_readPart, rm_X2_readOne]; omega), by first | decide | (simp only [rm_X2_readPart, rm_X2_readOne]; omega)⟩ rfl hl.1 rfl (Nat.le_of_ble_eq_true rfl) dX2_readOne_133 ⟨Nat.zero_le _, Nat.zero_le _⟩) hA G [0, 1, 2, 3] [] [0, 1, 2, 3] rfl rfl (by decide) (by decide) (by decide) (fun _ => rfl) (fun uu H locs w_133 G => ?_)
          obtain ⟨p1_133, ft1_133, ns1_133, C1_133, X1_133⟩ := uu
          have G : zk_G D aA [(a 1, .inr (2, [.ref (a 10), .ref (a 11), .ref (a 12), .ref kc, .ref kv, .ref kn, .ref km, .int (nI sz), .int (nI ns1_133), .int (nI ln), .int (nI p1_133), .int ft1_133])), (a 11, .inl (g 0, 120, .inl (fun i => nI (tp i)))), (kn, .inl (g 0, 128, .inl (fun i => nI (C1_133 i)))), (km, .inl (g 0, 128, .inl (fun i => nI (X1_133 i))))] sS H locs := G
          have zb_133 := zg_le (em := zg_em) (ln := ln) ht (d) (5) (op + 1) (p + 1) ((ns, CN, XN)) (by omega) (by omega) (by omega) (by omega)
          obtain ⟨w_133, hns_133⟩ := w_133
          have hns_133 : ns1_133 ≤ 128 := hns_133
          rcases hz_133 : zg tp ln zg_em d 5 (op + 1) (p + 1) (ns, CN, XN) with e | ⟨a9, n9, C9, X9⟩
          · obtain ⟨h1_133, h2_133⟩ := zg_pl w_133 hz_133
            obtain rfl : p1_133 = e := h1_133
            obtain rfl : ft1_133 = nI p1_133 := h2_133
            have hb_133 := zb_133
            rw [hz_133] at hb_133
            have hp_133 : p1_133 ≤ ln := hb_133.2
            refine lv_aload_n Z.1 Z.2.1 dX2_readOne_136 rfl (lv_at hl 1 rfl) ?_
            refine lv_iload_n Z.1 Z.2.1 dX2_readOne_137 rfl (lv_at hl 0 rfl) ?_
            refine lv_bipush (v := nI 33) Z.1 Z.2.1 dX2_readOne_138 (by decide +kernel) ?_
            refine lv_icmp_ne (tgt := 148) Z.1 Z.2.1 dX2_readOne_140 (by decide) (fun c140 => ?_) (fun c140 => ?_)
            · have c140 : ¬ zg_c tp ln p = 33 := fun q9 => c140 ((zg_l_eq ht (by decide) (by decide)).mpr q9)
              refine lv_iconst (v := nI 5) Z.1 Z.2.1 dX2_readOne_148 (by decide +kernel) ?_
              refine lv_iconst (v := nI 0) Z.1 Z.2.1 dX2_readOne_149 (by decide +kernel) ?_
              refine zk_cv (WF := fun (_ : Unit) => [(a 1, .inr (2, [.ref (a 10), .ref (a 11), .ref (a 12), .ref kc, .ref kv, .ref kn, .ref km, .int (nI sz), .int (nI ((zg_em 5 0 (ns1_133, C1_133, X1_133)).1)), .int (nI ln), .int (nI p1_133), .int (nI p1_133)])), (a 11, .inl (g 0, 120, .inl (fun i => nI (tp i)))), (kn, .inl (g 0, 128, .inl (fun i => nI ((zg_em 5 0 (ns1_133, C1_133, X1_133)).2.1 i)))), (km, .inl (g 0, 128, .inl (fun i => nI ((zg_em 5 0 (ns1_133, C1_133, X1_133)).2.2 i))))]) (wr := [(a 11, .inl (g 0, 120, .inl (fun i => nI (tp i))))]) ⟨rfl, rfl⟩ (zk_rv (As := [.int (nI 5), .int (nI 0)]) (rest := []) (q0 := 0) (ci := 2) Z ((ct_X2_emit l D g τ a kc kv kn km sz ns1_133 ln p1_133 (nI p1_133) C1_133 X1_133 5 0 (by omega)) H.size) hK hT hA G [0, 2, 3] rfl (by decide) rfl rfl gX2_readOne_X2_emit rfl dvX2_emit ⟨by first | decide | (simp only [rm_X2_readPart, rm_X2_readOne]; omega), by first | decide | (simp only [rm_X2_readPart, rm_X2_readOne]; omega)⟩ rfl hl.1 rfl (Nat.le_of_ble_eq_true rfl) dX2_readOne_150 ⟨Nat.zero_le _, Nat.zero_le _⟩) hA G [0, 2, 3] [1] [1, 0, 2, 3] rfl rfl (by decide) (by decide) (by decide) (fun _ => rfl) (fun _ H locs w_150 G => ?_)
              exact zk_retv Z hR_ hlk hK hQ G (p1_133, nI p1_133, (zg_em 5 0 (ns1_133, C1_133, X1_133)).1, (zg_em 5 0 (ns1_133, C1_133, X1_133)).2.1, (zg_em 5 0 (ns1_133, C1_133, X1_133)).2.2) ⟨(by simp only [zg]; rw [if_neg (by decide), if_neg hdg, if_neg hnm9, if_neg hgood, if_neg c91, hz_133]; exact ⟨rfl, rfl⟩), zg_em_le _ _ hns_133⟩ rfl dX2_readOne_153
            have c140 : zg_c tp ln p = 33 := (zg_l_eq ht (by decide) (by decide)).mp c140
            refine lv_bipush (v := nI 6) Z.1 Z.2.1 dX2_readOne_143 (by decide +kernel) ?_
            refine lv_goto (tgt := 149) Z.1 Z.2.1 dX2_readOne_145 (by decide) ?_
            refine lv_iconst (v := nI 0) Z.1 Z.2.1 dX2_readOne_149 (by decide +kernel) ?_
            refine zk_cv (WF := fun (_ : Unit) => [(a 1, .inr (2, [.ref (a 10), .ref (a 11), .ref (a 12), .ref kc, .ref kv, .ref kn, .ref km, .int (nI sz), .int (nI ((zg_em 6 0 (ns1_133, C1_133, X1_133)).1)), .int (nI ln), .int (nI p1_133), .int (nI p1_133)])), (a 11, .inl (g 0, 120, .inl (fun i => nI (tp i)))), (kn, .inl (g 0, 128, .inl (fun i => nI ((zg_em 6 0 (ns1_133, C1_133, X1_133)).2.1 i)))), (km, .inl (g 0, 128, .inl (fun i => nI ((zg_em 6 0 (ns1_133, C1_133, X1_133)).2.2 i))))]) (wr := [(a 11, .inl (g 0, 120, .inl (fun i => nI (tp i))))]) ⟨rfl, rfl⟩ (zk_rv (As := [.int (nI 6), .int (nI 0)]) (rest := []) (q0 := 0) (ci := 2) Z ((ct_X2_emit l D g τ a kc kv kn km sz ns1_133 ln p1_133 (nI p1_133) C1_133 X1_133 6 0 (by omega)) H.size) hK hT hA G [0, 2, 3] rfl (by decide) rfl rfl gX2_readOne_X2_emit rfl dvX2_emit ⟨by first | decide | (simp only [rm_X2_readPart, rm_X2_readOne]; omega), by first | decide | (simp only [rm_X2_readPart, rm_X2_readOne]; omega)⟩ rfl hl.1 rfl (Nat.le_of_ble_eq_true rfl) dX2_readOne_150 ⟨Nat.zero_le _, Nat.zero_le _⟩) hA G [0, 2, 3] [1] [1, 0, 2, 3] rfl rfl (by decide) (by decide) (by decide) (fun _ => rfl) (fun _ H locs w_150 G => ?_)
            exact zk_retv Z hR_ hlk hK hQ G (p1_133, nI p1_133, (zg_em 6 0 (ns1_133, C1_133, X1_133)).1, (zg_em 6 0 (ns1_133, C1_133, X1_133)).2.1, (zg_em 6 0 (ns1_133, C1_133, X1_133)).2.2) ⟨(by simp only [zg]; rw [if_neg (by decide), if_neg hdg, if_neg hnm9, if_neg hgood, if_neg c91, hz_133]; exact ⟨rfl, rfl⟩), zg_em_le _ _ hns_133⟩ rfl dX2_readOne_153
          · obtain ⟨h1_133, h2_133, h3_133⟩ := zg_pr w_133 hz_133
            obtain rfl : p1_133 = a9 := h1_133
            obtain rfl : ft1_133 = -1 := h2_133
            obtain ⟨rfl, rfl, rfl⟩ : ns1_133 = n9 ∧ C1_133 = C9 ∧ X1_133 = X9 := by
              have h4 := h3_133
              simp only [Prod.mk.injEq] at h4
              exact h4
            have hb_133 := zb_133
            rw [hz_133] at hb_133
            have hp_133 : p1_133 ≤ ln := hb_133.2
            refine lv_aload_n Z.1 Z.2.1 dX2_readOne_136 rfl (lv_at hl 1 rfl) ?_
            refine lv_iload_n Z.1 Z.2.1 dX2_readOne_137 rfl (lv_at hl 0 rfl) ?_
            refine lv_bipush (v := nI 33) Z.1 Z.2.1 dX2_readOne_138 (by decide +kernel) ?_
            refine lv_icmp_ne (tgt := 148) Z.1 Z.2.1 dX2_readOne_140 (by decide) (fun c140 => ?_) (fun c140 => ?_)
            · have c140 : ¬ zg_c tp ln p = 33 := fun q9 => c140 ((zg_l_eq ht (by decide) (by decide)).mpr q9)
              refine lv_iconst (v := nI 5) Z.1 Z.2.1 dX2_readOne_148 (by decide +kernel) ?_
              refine lv_iconst (v := nI 0) Z.1 Z.2.1 dX2_readOne_149 (by decide +kernel) ?_
              refine zk_cv (WF := fun (_ : Unit) => [(a 1, .inr (2, [.ref (a 10), .ref (a 11), .ref (a 12), .ref kc, .ref kv, .ref kn, .ref km, .int (nI sz), .int (nI ((zg_em 5 0 (ns1_133, C1_133, X1_133)).1)), .int (nI ln), .int (nI p1_133), .int (-1)])), (a 11, .inl (g 0, 120, .inl (fun i => nI (tp i)))), (kn, .inl (g 0, 128, .inl (fun i => nI ((zg_em 5 0 (ns1_133, C1_133, X1_133)).2.1 i)))), (km, .inl (g 0, 128, .inl (fun i => nI ((zg_em 5 0 (ns1_133, C1_133, X1_133)).2.2 i))))]) (wr := [(a 11, .inl (g 0, 120, .inl (fun i => nI (tp i))))]) ⟨rfl, rfl⟩ (zk_rv (As := [.int (nI 5), .int (nI 0)]) (rest := []) (q0 := 0) (ci := 2) Z ((ct_X2_emit l D g τ a kc kv kn km sz ns1_133 ln p1_133 (-1) C1_133 X1_133 5 0 (by omega)) H.size) hK hT hA G [0, 2, 3] rfl (by decide) rfl rfl gX2_readOne_X2_emit rfl dvX2_emit ⟨by first | decide | (simp only [rm_X2_readPart, rm_X2_readOne]; omega), by first | decide | (simp only [rm_X2_readPart, rm_X2_readOne]; omega)⟩ rfl hl.1 rfl (Nat.le_of_ble_eq_true rfl) dX2_readOne_150 ⟨Nat.zero_le _, Nat.zero_le _⟩) hA G [0, 2, 3] [1] [1, 0, 2, 3] rfl rfl (by decide) (by decide) (by decide) (fun _ => rfl) (fun _ H locs w_150 G => ?_)
              exact zk_retv Z hR_ hlk hK hQ G (p1_133, (-1), (zg_em 5 0 (ns1_133, C1_133, X1_133)).1, (zg_em 5 0 (ns1_133, C1_133, X1_133)).2.1, (zg_em 5 0 (ns1_133, C1_133, X1_133)).2.2) ⟨(by simp only [zg]; rw [if_neg (by decide), if_neg hdg, if_neg hnm9, if_neg hgood, if_neg c91, hz_133]; simp only; rw [if_neg c140]; exact ⟨rfl, rfl, rfl⟩), zg_em_le _ _ hns_133⟩ rfl dX2_readOne_153
            have c140 : zg_c tp ln p = 33 := (zg_l_eq ht (by decide) (by decide)).mp c140
            refine lv_bipush (v := nI 6) Z.1 Z.2.1 dX2_readOne_143 (by decide +kernel) ?_
            refine lv_goto (tgt := 149) Z.1 Z.2.1 dX2_readOne_145 (by decide) ?_
            refine lv_iconst (v := nI 0) Z.1 Z.2.1 dX2_readOne_149 (by decide +kernel) ?_
            refine zk_cv (WF := fun (_ : Unit) => [(a 1, .inr (2, [.ref (a 10), .ref (a 11), .ref (a 12), .ref kc, .ref kv, .ref kn, .ref km, .int (nI sz), .int (nI ((zg_em 6 0 (ns1_133, C1_133, X1_133)).1)), .int (nI ln), .int (nI p1_133), .int (-1)])), (a 11, .inl (g 0, 120, .inl (fun i => nI (tp i)))), (kn, .inl (g 0, 128, .inl (fun i => nI ((zg_em 6 0 (ns1_133, C1_133, X1_133)).2.1 i)))), (km, .inl (g 0, 128, .inl (fun i => nI ((zg_em 6 0 (ns1_133, C1_133, X1_133)).2.2 i))))]) (wr := [(a 11, .inl (g 0, 120, .inl (fun i => nI (tp i))))]) ⟨rfl, rfl⟩ (zk_rv (As := [.int (nI 6), .int (nI 0)]) (rest := []) (q0 := 0) (ci := 2) Z ((ct_X2_emit l D g τ a kc kv kn km sz ns1_133 ln p1_133 (-1) C1_133 X1_133 6 0 (by omega)) H.size) hK hT hA G [0, 2, 3] rfl (by decide) rfl rfl gX2_readOne_X2_emit rfl dvX2_emit ⟨by first | decide | (simp only [rm_X2_readPart, rm_X2_readOne]; omega), by first | decide | (simp only [rm_X2_readPart, rm_X2_readOne]; omega)⟩ rfl hl.1 rfl (Nat.le_of_ble_eq_true rfl) dX2_readOne_150 ⟨Nat.zero_le _, Nat.zero_le _⟩) hA G [0, 2, 3] [1] [1, 0, 2, 3] rfl rfl (by decide) (by decide) (by decide) (fun _ => rfl) (fun _ H locs w_150 G => ?_)
            exact zk_retv Z hR_ hlk hK hQ G (p1_133, (-1), (zg_em 6 0 (ns1_133, C1_133, X1_133)).1, (zg_em 6 0 (ns1_133, C1_133, X1_133)).2.1, (zg_em 6 0 (ns1_133, C1_133, X1_133)).2.2) ⟨(by simp only [zg]; rw [if_neg (by decide), if_neg hdg, if_neg hnm9, if_neg hgood, if_neg c91, hz_133]; simp only; rw [if_pos c140]; exact ⟨rfl, rfl, rfl⟩), zg_em_le _ _ hns_133⟩ rfl dX2_readOne_153
        exfalso
        have c91 : zg_c tp ln p = 40 := (zg_l_eq ht (by decide) (by decide)).mp c91
        omega
      have c68 : ¬ zg_c tp ln p = 33 := fun q9 => c68 ((zg_l_eq ht (by decide) (by decide)).mpr q9)
      refine lv_iload_n Z.1 Z.2.1 dX2_readOne_71 rfl (lv_at hl 0 rfl) ?_
      refine lv_bipush (v := nI 45) Z.1 Z.2.1 dX2_readOne_72 (by decide +kernel) ?_
      refine lv_icmp_eq (tgt := 88) Z.1 Z.2.1 dX2_readOne_74 (by decide) (fun c74 => ?_) (fun c74 => ?_)
      · have c74 : zg_c tp ln p = 45 := (zg_l_eq ht (by decide) (by decide)).mp c74
        have hgood : ¬ (6 ≤ op ∨ ¬ (zg_c tp ln p = 40 ∨ zg_c tp ln p = 33 ∨ zg_c tp ln p = 45)) := by omega
        have hpl : p < ln := zg_c_lt (tp := tp) (by omega)
        refine lv_iload_n Z.1 Z.2.1 dX2_readOne_88 rfl (lv_at hl 0 rfl) ?_
        refine lv_bipush (v := nI 40) Z.1 Z.2.1 dX2_readOne_89 (by decide +kernel) ?_
        refine lv_icmp_ne (tgt := 119) Z.1 Z.2.1 dX2_readOne_91 (by decide) (fun c91 => ?_) (fun c91 => ?_)
        · have c91 : ¬ zg_c tp ln p = 40 := fun q9 => c91 ((zg_l_eq ht (by decide) (by decide)).mpr q9)
          refine lv_aload_n Z.1 Z.2.1 dX2_readOne_119 rfl (lv_at hl 1 rfl) ?_
          refine lv_dup Z.1 Z.2.1 dX2_readOne_120 rfl ?_
          refine zk_get (C := RX2) (T := TX2) (N := 12) (ci := 2) Z hK G hinX2 0 rfl rfl 10 (by decide) (List.mem_of_getElem? (i := 1) rfl) rfl (v := .int (nI p)) rfl dX2_readOne_121 ?_
          refine lv_iconst (v := nI 1) Z.1 Z.2.1 dX2_readOne_124 (by decide +kernel) ?_
          refine zk_iadd Z dX2_readOne_125 (z := nI (p + 1)) (nI_add _ _) ?_
          refine zk_put tyX2 tyX2_ok nmX2 (C := RX2) (T := TX2) (N := 12) (ci := 2) Z hK G hinX2 0 rfl rfl 10 (by decide) (List.mem_of_getElem? (i := 1) rfl) rfl rfl rfl rfl (Nat.le_of_ble_eq_true rfl) (ws' := [(a 1, .inr (2, [.ref (a 10), .ref (a 11), .ref (a 12), .ref kc, .ref kv, .ref kn, .ref km, .int (nI sz), .int (nI ns), .int (nI ln), .int (nI (p + 1)), .int (-1)])), (a 11, .inl (g 0, 120, .inl (fun i => nI (tp i)))), (kn, .inl (g 0, 128, .inl (fun i => nI (CN i)))), (km, .inl (g 0, 128, .inl (fun i => nI (XN i))))]) rfl dX2_readOne_126 (fun H locs G => ?_)
          refine lv_aload_n Z.1 Z.2.1 dX2_readOne_129 rfl (lv_at hl 1 rfl) ?_
          refine lv_iload_n Z.1 Z.2.1 dX2_readOne_130 rfl (lv_at hl 2 rfl) ?_
          refine lv_iconst (v := nI 1) Z.1 Z.2.1 dX2_readOne_131 (by decide +kernel) ?_
          refine zk_iadd Z dX2_readOne_132 (z := nI (op + 1)) (nI_add _ _) ?_
          refine zk_cv (WF := fun uu => [(a 1, .inr (2, [.ref (a 10), .ref (a 11), .ref (a 12), .ref kc, .ref kv, .ref kn, .ref km, .int (nI sz), .int (nI uu.2.2.1), .int (nI ln), .int (nI uu.1), .int uu.2.1])), (a 11, .inl (g 0, 120, .inl (fun i => nI (tp i)))), (kn, .inl (g 0, 128, .inl (fun i => nI (uu.2.2.2.1 i)))), (km, .inl (g 0, 128, .inl (fun i => nI (uu.2.2.2.2 i))))]) (wr := []) ⟨rfl, rfl⟩ (zk_rv (As := [.int (nI (op + 1))]) (rest := []) (q0 := 0) (ci := 2) Z ((ihO a kc kv kn km sz ns ln (p + 1) tp CN XN (op + 1) (by exact hln) (by omega) (by exact ht) (by exact hns) (by omega) (by omega)) H.size) hK hT hA G [0, 1, 2, 3] rfl (by decide) rfl rfl gX2_readOne_X2_readOne rfl dvX2_readOne ⟨by first | decide | (simp only [rm_X2_readPart, rm_X2_readOne]; omega), by first | decide | (simp only [rm_X2_readPart, rm_X2_readOne]; omega)⟩ rfl hl.1 rfl (Nat.le_of_ble_eq_true rfl) dX2_readOne_133 ⟨Nat.zero_le _, Nat.zero_le _⟩) hA G [0, 1, 2, 3] [] [0, 1, 2, 3] rfl rfl (by decide) (by decide) (by decide) (fun _ => rfl) (fun uu H locs w_133 G => ?_)
          obtain ⟨p1_133, ft1_133, ns1_133, C1_133, X1_133⟩ := uu
          have G : zk_G D aA [(a 1, .inr (2, [.ref (a 10), .ref (a 11), .ref (a 12), .ref kc, .ref kv, .ref kn, .ref km, .int (nI sz), .int (nI ns1_133), .int (nI ln), .int (nI p1_133), .int ft1_133])), (a 11, .inl (g 0, 120, .inl (fun i => nI (tp i)))), (kn, .inl (g 0, 128, .inl (fun i => nI (C1_133 i)))), (km, .inl (g 0, 128, .inl (fun i => nI (X1_133 i))))] sS H locs := G
          have zb_133 := zg_le (em := zg_em) (ln := ln) ht (d) (5) (op + 1) (p + 1) ((ns, CN, XN)) (by omega) (by omega) (by omega) (by omega)
          obtain ⟨w_133, hns_133⟩ := w_133
          have hns_133 : ns1_133 ≤ 128 := hns_133
          rcases hz_133 : zg tp ln zg_em d 5 (op + 1) (p + 1) (ns, CN, XN) with e | ⟨a9, n9, C9, X9⟩
          · obtain ⟨h1_133, h2_133⟩ := zg_pl w_133 hz_133
            obtain rfl : p1_133 = e := h1_133
            obtain rfl : ft1_133 = nI p1_133 := h2_133
            have hb_133 := zb_133
            rw [hz_133] at hb_133
            have hp_133 : p1_133 ≤ ln := hb_133.2
            refine lv_aload_n Z.1 Z.2.1 dX2_readOne_136 rfl (lv_at hl 1 rfl) ?_
            refine lv_iload_n Z.1 Z.2.1 dX2_readOne_137 rfl (lv_at hl 0 rfl) ?_
            refine lv_bipush (v := nI 33) Z.1 Z.2.1 dX2_readOne_138 (by decide +kernel) ?_
            refine lv_icmp_ne (tgt := 148) Z.1 Z.2.1 dX2_readOne_140 (by decide) (fun c140 => ?_) (fun c140 => ?_)
            · have c140 : ¬ zg_c tp ln p = 33 := fun q9 => c140 ((zg_l_eq ht (by decide) (by decide)).mpr q9)
              refine lv_iconst (v := nI 5) Z.1 Z.2.1 dX2_readOne_148 (by decide +kernel) ?_
              refine lv_iconst (v := nI 0) Z.1 Z.2.1 dX2_readOne_149 (by decide +kernel) ?_
              refine zk_cv (WF := fun (_ : Unit) => [(a 1, .inr (2, [.ref (a 10), .ref (a 11), .ref (a 12), .ref kc, .ref kv, .ref kn, .ref km, .int (nI sz), .int (nI ((zg_em 5 0 (ns1_133, C1_133, X1_133)).1)), .int (nI ln), .int (nI p1_133), .int (nI p1_133)])), (a 11, .inl (g 0, 120, .inl (fun i => nI (tp i)))), (kn, .inl (g 0, 128, .inl (fun i => nI ((zg_em 5 0 (ns1_133, C1_133, X1_133)).2.1 i)))), (km, .inl (g 0, 128, .inl (fun i => nI ((zg_em 5 0 (ns1_133, C1_133, X1_133)).2.2 i))))]) (wr := [(a 11, .inl (g 0, 120, .inl (fun i => nI (tp i))))]) ⟨rfl, rfl⟩ (zk_rv (As := [.int (nI 5), .int (nI 0)]) (rest := []) (q0 := 0) (ci := 2) Z ((ct_X2_emit l D g τ a kc kv kn km sz ns1_133 ln p1_133 (nI p1_133) C1_133 X1_133 5 0 (by omega)) H.size) hK hT hA G [0, 2, 3] rfl (by decide) rfl rfl gX2_readOne_X2_emit rfl dvX2_emit ⟨by first | decide | (simp only [rm_X2_readPart, rm_X2_readOne]; omega), by first | decide | (simp only [rm_X2_readPart, rm_X2_readOne]; omega)⟩ rfl hl.1 rfl (Nat.le_of_ble_eq_true rfl) dX2_readOne_150 ⟨Nat.zero_le _, Nat.zero_le _⟩) hA G [0, 2, 3] [1] [1, 0, 2, 3] rfl rfl (by decide) (by decide) (by decide) (fun _ => rfl) (fun _ H locs w_150 G => ?_)
              exact zk_retv Z hR_ hlk hK hQ G (p1_133, nI p1_133, (zg_em 5 0 (ns1_133, C1_133, X1_133)).1, (zg_em 5 0 (ns1_133, C1_133, X1_133)).2.1, (zg_em 5 0 (ns1_133, C1_133, X1_133)).2.2) ⟨(by simp only [zg]; rw [if_neg (by decide), if_neg hdg, if_neg hnm9, if_neg hgood, if_neg c91, hz_133]; exact ⟨rfl, rfl⟩), zg_em_le _ _ hns_133⟩ rfl dX2_readOne_153
            have c140 : zg_c tp ln p = 33 := (zg_l_eq ht (by decide) (by decide)).mp c140
            refine lv_bipush (v := nI 6) Z.1 Z.2.1 dX2_readOne_143 (by decide +kernel) ?_
            refine lv_goto (tgt := 149) Z.1 Z.2.1 dX2_readOne_145 (by decide) ?_
            refine lv_iconst (v := nI 0) Z.1 Z.2.1 dX2_readOne_149 (by decide +kernel) ?_
            refine zk_cv (WF := fun (_ : Unit) => [(a 1, .inr (2, [.ref (a 10), .ref (a 11), .ref (a 12), .ref kc, .ref kv, .ref kn, .ref km, .int (nI sz), .int (nI ((zg_em 6 0 (ns1_133, C1_133, X1_133)).1)), .int (nI ln), .int (nI p1_133), .int (nI p1_133)])), (a 11, .inl (g 0, 120, .inl (fun i => nI (tp i)))), (kn, .inl (g 0, 128, .inl (fun i => nI ((zg_em 6 0 (ns1_133, C1_133, X1_133)).2.1 i)))), (km, .inl (g 0, 128, .inl (fun i => nI ((zg_em 6 0 (ns1_133, C1_133, X1_133)).2.2 i))))]) (wr := [(a 11, .inl (g 0, 120, .inl (fun i => nI (tp i))))]) ⟨rfl, rfl⟩ (zk_rv (As := [.int (nI 6), .int (nI 0)]) (rest := []) (q0 := 0) (ci := 2) Z ((ct_X2_emit l D g τ a kc kv kn km sz ns1_133 ln p1_133 (nI p1_133) C1_133 X1_133 6 0 (by omega)) H.size) hK hT hA G [0, 2, 3] rfl (by decide) rfl rfl gX2_readOne_X2_emit rfl dvX2_emit ⟨by first | decide | (simp only [rm_X2_readPart, rm_X2_readOne]; omega), by first | decide | (simp only [rm_X2_readPart, rm_X2_readOne]; omega)⟩ rfl hl.1 rfl (Nat.le_of_ble_eq_true rfl) dX2_readOne_150 ⟨Nat.zero_le _, Nat.zero_le _⟩) hA G [0, 2, 3] [1] [1, 0, 2, 3] rfl rfl (by decide) (by decide) (by decide) (fun _ => rfl) (fun _ H locs w_150 G => ?_)
            exact zk_retv Z hR_ hlk hK hQ G (p1_133, nI p1_133, (zg_em 6 0 (ns1_133, C1_133, X1_133)).1, (zg_em 6 0 (ns1_133, C1_133, X1_133)).2.1, (zg_em 6 0 (ns1_133, C1_133, X1_133)).2.2) ⟨(by simp only [zg]; rw [if_neg (by decide), if_neg hdg, if_neg hnm9, if_neg hgood, if_neg c91, hz_133]; exact ⟨rfl, rfl⟩), zg_em_le _ _ hns_133⟩ rfl dX2_readOne_153
          · obtain ⟨h1_133, h2_133, h3_133⟩ := zg_pr w_133 hz_133
            obtain rfl : p1_133 = a9 := h1_133
            obtain rfl : ft1_133 = -1 := h2_133
            obtain ⟨rfl, rfl, rfl⟩ : ns1_133 = n9 ∧ C1_133 = C9 ∧ X1_133 = X9 := by
              have h4 := h3_133
              simp only [Prod.mk.injEq] at h4
              exact h4
            have hb_133 := zb_133
            rw [hz_133] at hb_133
            have hp_133 : p1_133 ≤ ln := hb_133.2
            refine lv_aload_n Z.1 Z.2.1 dX2_readOne_136 rfl (lv_at hl 1 rfl) ?_
            refine lv_iload_n Z.1 Z.2.1 dX2_readOne_137 rfl (lv_at hl 0 rfl) ?_
            refine lv_bipush (v := nI 33) Z.1 Z.2.1 dX2_readOne_138 (by decide +kernel) ?_
            refine lv_icmp_ne (tgt := 148) Z.1 Z.2.1 dX2_readOne_140 (by decide) (fun c140 => ?_) (fun c140 => ?_)
            · have c140 : ¬ zg_c tp ln p = 33 := fun q9 => c140 ((zg_l_eq ht (by decide) (by decide)).mpr q9)
              refine lv_iconst (v := nI 5) Z.1 Z.2.1 dX2_readOne_148 (by decide +kernel) ?_
              refine lv_iconst (v := nI 0) Z.1 Z.2.1 dX2_readOne_149 (by decide +kernel) ?_
              refine zk_cv (WF := fun (_ : Unit) => [(a 1, .inr (2, [.ref (a 10), .ref (a 11), .ref (a 12), .ref kc, .ref kv, .ref kn, .ref km, .int (nI sz), .int (nI ((zg_em 5 0 (ns1_133, C1_133, X1_133)).1)), .int (nI ln), .int (nI p1_133), .int (-1)])), (a 11, .inl (g 0, 120, .inl (fun i => nI (tp i)))), (kn, .inl (g 0, 128, .inl (fun i => nI ((zg_em 5 0 (ns1_133, C1_133, X1_133)).2.1 i)))), (km, .inl (g 0, 128, .inl (fun i => nI ((zg_em 5 0 (ns1_133, C1_133, X1_133)).2.2 i))))]) (wr := [(a 11, .inl (g 0, 120, .inl (fun i => nI (tp i))))]) ⟨rfl, rfl⟩ (zk_rv (As := [.int (nI 5), .int (nI 0)]) (rest := []) (q0 := 0) (ci := 2) Z ((ct_X2_emit l D g τ a kc kv kn km sz ns1_133 ln p1_133 (-1) C1_133 X1_133 5 0 (by omega)) H.size) hK hT hA G [0, 2, 3] rfl (by decide) rfl rfl gX2_readOne_X2_emit rfl dvX2_emit ⟨by first | decide | (simp only [rm_X2_readPart, rm_X2_readOne]; omega), by first | decide | (simp only [rm_X2_readPart, rm_X2_readOne]; omega)⟩ rfl hl.1 rfl (Nat.le_of_ble_eq_true rfl) dX2_readOne_150 ⟨Nat.zero_le _, Nat.zero_le _⟩) hA G [0, 2, 3] [1] [1, 0, 2, 3] rfl rfl (by decide) (by decide) (by decide) (fun _ => rfl) (fun _ H locs w_150 G => ?_)
              exact zk_retv Z hR_ hlk hK hQ G (p1_133, (-1), (zg_em 5 0 (ns1_133, C1_133, X1_133)).1, (zg_em 5 0 (ns1_133, C1_133, X1_133)).2.1, (zg_em 5 0 (ns1_133, C1_133, X1_133)).2.2) ⟨(by simp only [zg]; rw [if_neg (by decide), if_neg hdg, if_neg hnm9, if_neg hgood, if_neg c91, hz_133]; simp only; rw [if_neg c140]; exact ⟨rfl, rfl, rfl⟩), zg_em_le _ _ hns_133⟩ rfl dX2_readOne_153
            have c140 : zg_c tp ln p = 33 := (zg_l_eq ht (by decide) (by decide)).mp c140
            refine lv_bipush (v := nI 6) Z.1 Z.2.1 dX2_readOne_143 (by decide +kernel) ?_
            refine lv_goto (tgt := 149) Z.1 Z.2.1 dX2_readOne_145 (by decide) ?_
            refine lv_iconst (v := nI 0) Z.1 Z.2.1 dX2_readOne_149 (by decide +kernel) ?_
            refine zk_cv (WF := fun (_ : Unit) => [(a 1, .inr (2, [.ref (a 10), .ref (a 11), .ref (a 12), .ref kc, .ref kv, .ref kn, .ref km, .int (nI sz), .int (nI ((zg_em 6 0 (ns1_133, C1_133, X1_133)).1)), .int (nI ln), .int (nI p1_133), .int (-1)])), (a 11, .inl (g 0, 120, .inl (fun i => nI (tp i)))), (kn, .inl (g 0, 128, .inl (fun i => nI ((zg_em 6 0 (ns1_133, C1_133, X1_133)).2.1 i)))), (km, .inl (g 0, 128, .inl (fun i => nI ((zg_em 6 0 (ns1_133, C1_133, X1_133)).2.2 i))))]) (wr := [(a 11, .inl (g 0, 120, .inl (fun i => nI (tp i))))]) ⟨rfl, rfl⟩ (zk_rv (As := [.int (nI 6), .int (nI 0)]) (rest := []) (q0 := 0) (ci := 2) Z ((ct_X2_emit l D g τ a kc kv kn km sz ns1_133 ln p1_133 (-1) C1_133 X1_133 6 0 (by omega)) H.size) hK hT hA G [0, 2, 3] rfl (by decide) rfl rfl gX2_readOne_X2_emit rfl dvX2_emit ⟨by first | decide | (simp only [rm_X2_readPart, rm_X2_readOne]; omega), by first | decide | (simp only [rm_X2_readPart, rm_X2_readOne]; omega)⟩ rfl hl.1 rfl (Nat.le_of_ble_eq_true rfl) dX2_readOne_150 ⟨Nat.zero_le _, Nat.zero_le _⟩) hA G [0, 2, 3] [1] [1, 0, 2, 3] rfl rfl (by decide) (by decide) (by decide) (fun _ => rfl) (fun _ H locs w_150 G => ?_)
            exact zk_retv Z hR_ hlk hK hQ G (p1_133, (-1), (zg_em 6 0 (ns1_133, C1_133, X1_133)).1, (zg_em 6 0 (ns1_133, C1_133, X1_133)).2.1, (zg_em 6 0 (ns1_133, C1_133, X1_133)).2.2) ⟨(by simp only [zg]; rw [if_neg (by decide), if_neg hdg, if_neg hnm9, if_neg hgood, if_neg c91, hz_133]; simp only; rw [if_pos c140]; exact ⟨rfl, rfl, rfl⟩), zg_em_le _ _ hns_133⟩ rfl dX2_readOne_153
        exfalso
        have c91 : zg_c tp ln p = 40 := (zg_l_eq ht (by decide) (by decide)).mp c91
        omega
      have c74 : ¬ zg_c tp ln p = 45 := fun q9 => c74 ((zg_l_eq ht (by decide) (by decide)).mpr q9)
      have hbad : 6 ≤ op ∨ ¬ (zg_c tp ln p = 40 ∨ zg_c tp ln p = 33 ∨ zg_c tp ln p = 45) := Or.inr (by omega)
      refine lv_aload_n Z.1 Z.2.1 dX2_readOne_77 rfl (lv_at hl 1 rfl) ?_
      refine lv_aload_n Z.1 Z.2.1 dX2_readOne_78 rfl (lv_at hl 1 rfl) ?_
      refine zk_get (C := RX2) (T := TX2) (N := 12) (ci := 2) Z hK G hinX2 0 rfl rfl 10 (by decide) (List.mem_of_getElem? (i := 1) rfl) rfl (v := .int (nI p)) rfl dX2_readOne_79 ?_
      refine zk_put tyX2 tyX2_ok nmX2 (C := RX2) (T := TX2) (N := 12) (ci := 2) Z hK G hinX2 0 rfl rfl 11 (by decide) (List.mem_of_getElem? (i := 2) rfl) rfl rfl rfl rfl (Nat.le_of_ble_eq_true rfl) (ws' := [(a 1, .inr (2, [.ref (a 10), .ref (a 11), .ref (a 12), .ref kc, .ref kv, .ref kn, .ref km, .int (nI sz), .int (nI ns), .int (nI ln), .int (nI p), .int (nI p)])), (a 11, .inl (g 0, 120, .inl (fun i => nI (tp i)))), (kn, .inl (g 0, 128, .inl (fun i => nI (CN i)))), (km, .inl (g 0, 128, .inl (fun i => nI (XN i))))]) rfl dX2_readOne_82 (fun H locs G => ?_)
      refine lv_goto (tgt := 153) Z.1 Z.2.1 dX2_readOne_85 (by decide) ?_
      exact zk_retv Z hR_ hlk hK hQ G (p, nI p, ns, CN, XN) ⟨(by simp only [zg]; rw [if_neg (by decide), if_neg hdg, if_neg hnm9, if_pos hbad]; exact ⟨rfl, rfl⟩), hns⟩ rfl dX2_readOne_153
    have hnm9 : zg_nam (zg_c tp ln p) < 6 := Decidable.byContradiction (fun q9 => by rw [zg_ni_n ht, if_neg q9] at c28; exact c28 (by decide))
    have hpl := zg_c_lt (zg_nam_0 hnm9)
    refine lv_aload_n Z.1 Z.2.1 dX2_readOne_31 rfl (lv_at hl 1 rfl) ?_
    refine lv_dup Z.1 Z.2.1 dX2_readOne_32 rfl ?_
    refine zk_get (C := RX2) (T := TX2) (N := 12) (ci := 2) Z hK G hinX2 0 rfl rfl 10 (by decide) (List.mem_of_getElem? (i := 1) rfl) rfl (v := .int (nI p)) rfl dX2_readOne_33 ?_
    refine lv_iconst (v := nI 1) Z.1 Z.2.1 dX2_readOne_36 (by decide +kernel) ?_
    refine zk_iadd Z dX2_readOne_37 (z := nI (p + 1)) (nI_add _ _) ?_
    refine zk_put tyX2 tyX2_ok nmX2 (C := RX2) (T := TX2) (N := 12) (ci := 2) Z hK G hinX2 0 rfl rfl 10 (by decide) (List.mem_of_getElem? (i := 1) rfl) rfl rfl rfl rfl (Nat.le_of_ble_eq_true rfl) (ws' := [(a 1, .inr (2, [.ref (a 10), .ref (a 11), .ref (a 12), .ref kc, .ref kv, .ref kn, .ref km, .int (nI sz), .int (nI ns), .int (nI ln), .int (nI (p + 1)), .int (-1)])), (a 11, .inl (g 0, 120, .inl (fun i => nI (tp i)))), (kn, .inl (g 0, 128, .inl (fun i => nI (CN i)))), (km, .inl (g 0, 128, .inl (fun i => nI (XN i))))]) rfl dX2_readOne_38 (fun H locs G => ?_)
    refine lv_aload_n Z.1 Z.2.1 dX2_readOne_41 rfl (lv_at hl 1 rfl) ?_
    refine lv_iconst (v := nI 2) Z.1 Z.2.1 dX2_readOne_42 (by decide +kernel) ?_
    refine lv_iload_n Z.1 Z.2.1 dX2_readOne_43 rfl (lv_at hl 0 rfl) ?_
    refine zk_ci (WF := fun (_ : Unit) => [(a 1, .inr (2, [.ref (a 10), .ref (a 11), .ref (a 12), .ref kc, .ref kv, .ref kn, .ref km, .int (nI sz), .int (nI ns), .int (nI ln), .int (nI (p + 1)), .int (-1)])), (a 11, .inl (g 0, 120, .inl (fun i => nI (tp i)))), (kn, .inl (g 0, 128, .inl (fun i => nI (CN i)))), (km, .inl (g 0, 128, .inl (fun i => nI (XN i))))]) (wr := [(a 1, .inr (2, [.ref (a 10), .ref (a 11), .ref (a 12), .ref kc, .ref kv, .ref kn, .ref km, .int (nI sz), .int (nI ns), .int (nI ln), .int (nI (p + 1)), .int (-1)])), (a 11, .inl (g 0, 120, .inl (fun i => nI (tp i)))), (kn, .inl (g 0, 128, .inl (fun i => nI (CN i)))), (km, .inl (g 0, 128, .inl (fun i => nI (XN i))))]) ⟨rfl, rfl⟩ (zk_rs (As := [.int (zg_l tp ln p)]) (rest := [.int (nI 2), .ref (a 1)]) Z ((ct_X2_nameOf l D g τ (zg_l tp ln p) ) H.size) hK hT hA G [] rfl (by decide) gX2_readOne_X2_nameOf rfl dvX2_nameOf ⟨by first | decide | (simp only [rm_X2_readPart, rm_X2_readOne]; omega), by first | decide | (simp only [rm_X2_readPart, rm_X2_readOne]; omega)⟩ rfl hl.1 rfl (Nat.le_of_ble_eq_true rfl) dX2_readOne_44 ⟨Nat.zero_le _, Nat.zero_le _⟩) hA G [] [0, 1, 2, 3] [0, 1, 2, 3] rfl rfl (by decide) (by decide) (by decide) (fun _ => rfl) (fun r_44 _ H locs w_44 G => ?_)
    obtain rfl : r_44 = zg_ni (zg_l tp ln p) := w_44
    have en9 : zg_ni (zg_l tp ln p) = nI (zg_nam (zg_c tp ln p)) := by rw [zg_ni_n ht, if_pos hnm9]
    rw [en9]
    refine zk_cv (WF := fun (_ : Unit) => [(a 1, .inr (2, [.ref (a 10), .ref (a 11), .ref (a 12), .ref kc, .ref kv, .ref kn, .ref km, .int (nI sz), .int (nI ((zg_em 2 (zg_nam (zg_c tp ln p)) (ns, CN, XN)).1)), .int (nI ln), .int (nI (p + 1)), .int (-1)])), (a 11, .inl (g 0, 120, .inl (fun i => nI (tp i)))), (kn, .inl (g 0, 128, .inl (fun i => nI ((zg_em 2 (zg_nam (zg_c tp ln p)) (ns, CN, XN)).2.1 i)))), (km, .inl (g 0, 128, .inl (fun i => nI ((zg_em 2 (zg_nam (zg_c tp ln p)) (ns, CN, XN)).2.2 i))))]) (wr := [(a 11, .inl (g 0, 120, .inl (fun i => nI (tp i))))]) ⟨rfl, rfl⟩ (zk_rv (As := [.int (nI 2), .int (nI (zg_nam (zg_c tp ln p)))]) (rest := []) (q0 := 0) (ci := 2) Z ((ct_X2_emit l D g τ a kc kv kn km sz ns ln (p + 1) (-1) CN XN 2 (zg_nam (zg_c tp ln p)) (by exact hns)) H.size) hK hT hA G [0, 2, 3] rfl (by decide) rfl rfl gX2_readOne_X2_emit rfl dvX2_emit ⟨by first | decide | (simp only [rm_X2_readPart, rm_X2_readOne]; omega), by first | decide | (simp only [rm_X2_readPart, rm_X2_readOne]; omega)⟩ rfl hl.1 rfl (Nat.le_of_ble_eq_true rfl) dX2_readOne_47 ⟨Nat.zero_le _, Nat.zero_le _⟩) hA G [0, 2, 3] [1] [1, 0, 2, 3] rfl rfl (by decide) (by decide) (by decide) (fun _ => rfl) (fun _ H locs w_47 G => ?_)
    refine lv_goto (tgt := 153) Z.1 Z.2.1 dX2_readOne_50 (by decide) ?_
    exact zk_retv Z hR_ hlk hK hQ G (p + 1, -1, (zg_em 2 (zg_nam (zg_c tp ln p)) (ns, CN, XN)).1, (zg_em 2 (zg_nam (zg_c tp ln p)) (ns, CN, XN)).2.1, (zg_em 2 (zg_nam (zg_c tp ln p)) (ns, CN, XN)).2.2) ⟨(by simp only [zg]; rw [if_neg (by decide), if_neg hdg, if_pos hnm9]; exact ⟨rfl, rfl, rfl⟩), zg_em_le _ _ hns⟩ rfl dX2_readOne_153
  have c8 : 48 ≤ zg_c tp ln p := (zg_l_ge48 ht).mp c8
  refine lv_iload_n Z.1 Z.2.1 dX2_readOne_11 rfl (lv_at hl 0 rfl) ?_
  refine lv_bipush (v := nI 57) Z.1 Z.2.1 dX2_readOne_12 (by decide +kernel) ?_
  refine lv_icmp_gt (tgt := 24) Z.1 Z.2.1 dX2_readOne_14 (by decide) (fun c14 => ?_) (fun c14 => ?_)
  · have c14 : ¬ zg_c tp ln p ≤ 57 := fun q9 => (Int32.not_le.mpr c14) ((zg_l_le57 ht).mpr q9)
    have hdg : ¬ (48 ≤ zg_c tp ln p ∧ zg_c tp ln p ≤ 57) := fun q9 => c14 q9.2
    refine lv_iload_n Z.1 Z.2.1 dX2_readOne_24 rfl (lv_at hl 0 rfl) ?_
    refine zk_ci (WF := fun (_ : Unit) => [(a 1, .inr (2, [.ref (a 10), .ref (a 11), .ref (a 12), .ref kc, .ref kv, .ref kn, .ref km, .int (nI sz), .int (nI ns), .int (nI ln), .int (nI p), .int (-1)])), (a 11, .inl (g 0, 120, .inl (fun i => nI (tp i)))), (kn, .inl (g 0, 128, .inl (fun i => nI (CN i)))), (km, .inl (g 0, 128, .inl (fun i => nI (XN i))))]) (wr := [(a 1, .inr (2, [.ref (a 10), .ref (a 11), .ref (a 12), .ref kc, .ref kv, .ref kn, .ref km, .int (nI sz), .int (nI ns), .int (nI ln), .int (nI p), .int (-1)])), (a 11, .inl (g 0, 120, .inl (fun i => nI (tp i)))), (kn, .inl (g 0, 128, .inl (fun i => nI (CN i)))), (km, .inl (g 0, 128, .inl (fun i => nI (XN i))))]) ⟨rfl, rfl⟩ (zk_rs (As := [.int (zg_l tp ln p)]) (rest := []) Z ((ct_X2_nameOf l D g τ (zg_l tp ln p) ) H.size) hK hT hA G [] rfl (by decide) gX2_readOne_X2_nameOf rfl dvX2_nameOf ⟨by first | decide | (simp only [rm_X2_readPart, rm_X2_readOne]; omega), by first | decide | (simp only [rm_X2_readPart, rm_X2_readOne]; omega)⟩ rfl hl.1 rfl (Nat.le_of_ble_eq_true rfl) dX2_readOne_25 ⟨Nat.zero_le _, Nat.zero_le _⟩) hA G [] [0, 1, 2, 3] [0, 1, 2, 3] rfl rfl (by decide) (by decide) (by decide) (fun _ => rfl) (fun r_25 _ H locs w_25 G => ?_)
    obtain rfl : r_25 = zg_ni (zg_l tp ln p) := w_25
    refine lv_if_lt (tgt := 53) Z.1 Z.2.1 dX2_readOne_28 (by decide) (fun c28 => ?_) (fun c28 => ?_)
    · have hnm9 : ¬ zg_nam (zg_c tp ln p) < 6 := fun q9 => by rw [zg_ni_n ht, if_pos q9] at c28; exact absurd c28 (nI_pos (by omega))
      refine lv_iload_n Z.1 Z.2.1 dX2_readOne_53 rfl (lv_at hl 2 rfl) ?_
      refine lv_bipush (v := nI 6) Z.1 Z.2.1 dX2_readOne_54 (by decide +kernel) ?_
      refine lv_icmp_ge (tgt := 77) Z.1 Z.2.1 dX2_readOne_56 (by decide) (fun c56 => ?_) (fun c56 => ?_)
      · have c56 : 6 ≤ op := zk_le (by omega) (by omega) c56
        have hbad : 6 ≤ op ∨ ¬ (zg_c tp ln p = 40 ∨ zg_c tp ln p = 33 ∨ zg_c tp ln p = 45) := Or.inl c56
        refine lv_aload_n Z.1 Z.2.1 dX2_readOne_77 rfl (lv_at hl 1 rfl) ?_
        refine lv_aload_n Z.1 Z.2.1 dX2_readOne_78 rfl (lv_at hl 1 rfl) ?_
        refine zk_get (C := RX2) (T := TX2) (N := 12) (ci := 2) Z hK G hinX2 0 rfl rfl 10 (by decide) (List.mem_of_getElem? (i := 1) rfl) rfl (v := .int (nI p)) rfl dX2_readOne_79 ?_
        refine zk_put tyX2 tyX2_ok nmX2 (C := RX2) (T := TX2) (N := 12) (ci := 2) Z hK G hinX2 0 rfl rfl 11 (by decide) (List.mem_of_getElem? (i := 2) rfl) rfl rfl rfl rfl (Nat.le_of_ble_eq_true rfl) (ws' := [(a 1, .inr (2, [.ref (a 10), .ref (a 11), .ref (a 12), .ref kc, .ref kv, .ref kn, .ref km, .int (nI sz), .int (nI ns), .int (nI ln), .int (nI p), .int (nI p)])), (a 11, .inl (g 0, 120, .inl (fun i => nI (tp i)))), (kn, .inl (g 0, 128, .inl (fun i => nI (CN i)))), (km, .inl (g 0, 128, .inl (fun i => nI (XN i))))]) rfl dX2_readOne_82 (fun H locs G => ?_)
        refine lv_goto (tgt := 153) Z.1 Z.2.1 dX2_readOne_85 (by decide) ?_
        exact zk_retv Z hR_ hlk hK hQ G (p, nI p, ns, CN, XN) ⟨(by simp only [zg]; rw [if_neg (by decide), if_neg hdg, if_neg hnm9, if_pos hbad]; exact ⟨rfl, rfl⟩), hns⟩ rfl dX2_readOne_153
      have c56 : op < 6 := zk_nle (by omega) (by omega) c56
      refine lv_iload_n Z.1 Z.2.1 dX2_readOne_59 rfl (lv_at hl 0 rfl) ?_
      refine lv_bipush (v := nI 40) Z.1 Z.2.1 dX2_readOne_60 (by decide +kernel) ?_
      refine lv_icmp_eq (tgt := 88) Z.1 Z.2.1 dX2_readOne_62 (by decide) (fun c62 => ?_) (fun c62 => ?_)
      · have c62 : zg_c tp ln p = 40 := (zg_l_eq ht (by decide) (by decide)).mp c62
        have hgood : ¬ (6 ≤ op ∨ ¬ (zg_c tp ln p = 40 ∨ zg_c tp ln p = 33 ∨ zg_c tp ln p = 45)) := by omega
        have hpl : p < ln := zg_c_lt (tp := tp) (by omega)
        refine lv_iload_n Z.1 Z.2.1 dX2_readOne_88 rfl (lv_at hl 0 rfl) ?_
        refine lv_bipush (v := nI 40) Z.1 Z.2.1 dX2_readOne_89 (by decide +kernel) ?_
        refine lv_icmp_ne (tgt := 119) Z.1 Z.2.1 dX2_readOne_91 (by decide) (fun c91 => ?_) (fun c91 => ?_)
        · exfalso
          have c91 : ¬ zg_c tp ln p = 40 := fun q9 => c91 ((zg_l_eq ht (by decide) (by decide)).mpr q9)
          omega
        have c91 : zg_c tp ln p = 40 := (zg_l_eq ht (by decide) (by decide)).mp c91
        refine lv_aload_n Z.1 Z.2.1 dX2_readOne_94 rfl (lv_at hl 1 rfl) ?_
        refine lv_dup Z.1 Z.2.1 dX2_readOne_95 rfl ?_
        refine zk_get (C := RX2) (T := TX2) (N := 12) (ci := 2) Z hK G hinX2 0 rfl rfl 10 (by decide) (List.mem_of_getElem? (i := 1) rfl) rfl (v := .int (nI p)) rfl dX2_readOne_96 ?_
        refine lv_iconst (v := nI 1) Z.1 Z.2.1 dX2_readOne_99 (by decide +kernel) ?_
        refine zk_iadd Z dX2_readOne_100 (z := nI (p + 1)) (nI_add _ _) ?_
        refine zk_put tyX2 tyX2_ok nmX2 (C := RX2) (T := TX2) (N := 12) (ci := 2) Z hK G hinX2 0 rfl rfl 10 (by decide) (List.mem_of_getElem? (i := 1) rfl) rfl rfl rfl rfl (Nat.le_of_ble_eq_true rfl) (ws' := [(a 1, .inr (2, [.ref (a 10), .ref (a 11), .ref (a 12), .ref kc, .ref kv, .ref kn, .ref km, .int (nI sz), .int (nI ns), .int (nI ln), .int (nI (p + 1)), .int (-1)])), (a 11, .inl (g 0, 120, .inl (fun i => nI (tp i)))), (kn, .inl (g 0, 128, .inl (fun i => nI (CN i)))), (km, .inl (g 0, 128, .inl (fun i => nI (XN i))))]) rfl dX2_readOne_101 (fun H locs G => ?_)
        refine lv_aload_n Z.1 Z.2.1 dX2_readOne_104 rfl (lv_at hl 1 rfl) ?_
        refine lv_iconst (v := nI 0) Z.1 Z.2.1 dX2_readOne_105 (by decide +kernel) ?_
        refine lv_iload_n Z.1 Z.2.1 dX2_readOne_106 rfl (lv_at hl 2 rfl) ?_
        refine lv_iconst (v := nI 1) Z.1 Z.2.1 dX2_readOne_107 (by decide +kernel) ?_
        refine zk_iadd Z dX2_readOne_108 (z := nI (op + 1)) (nI_add _ _) ?_
        refine zk_cv (WF := fun uu => [(a 1, .inr (2, [.ref (a 10), .ref (a 11), .ref (a 12), .ref kc, .ref kv, .ref kn, .ref km, .int (nI sz), .int (nI uu.2.2.1), .int (nI ln), .int (nI uu.1), .int uu.2.1])), (a 11, .inl (g 0, 120, .inl (fun i => nI (tp i)))), (kn, .inl (g 0, 128, .inl (fun i => nI (uu.2.2.2.1 i)))), (km, .inl (g 0, 128, .inl (fun i => nI (uu.2.2.2.2 i))))]) (wr := []) ⟨rfl, rfl⟩ (zk_rv (As := [.int (nI 0), .int (nI (op + 1))]) (rest := []) (q0 := 0) (ci := 2) Z ((ihP a kc kv kn km sz ns ln (p + 1) tp CN XN 0 (op + 1) (by exact hln) (by omega) (by exact ht) (by exact hns) (by omega) (by omega) (by omega)) H.size) hK hT hA G [0, 1, 2, 3] rfl (by decide) rfl rfl gX2_readOne_X2_readPart rfl dvX2_readPart ⟨by first | decide | (simp only [rm_X2_readPart, rm_X2_readOne]; omega), by first | decide | (simp only [rm_X2_readPart, rm_X2_readOne]; omega)⟩ rfl hl.1 rfl (Nat.le_of_ble_eq_true rfl) dX2_readOne_109 ⟨Nat.zero_le _, Nat.zero_le _⟩) hA G [0, 1, 2, 3] [] [0, 1, 2, 3] rfl rfl (by decide) (by decide) (by decide) (fun _ => rfl) (fun uu H locs w_109 G => ?_)
        obtain ⟨p1_109, ft1_109, ns1_109, C1_109, X1_109⟩ := uu
        have G : zk_G D aA [(a 1, .inr (2, [.ref (a 10), .ref (a 11), .ref (a 12), .ref kc, .ref kv, .ref kn, .ref km, .int (nI sz), .int (nI ns1_109), .int (nI ln), .int (nI p1_109), .int ft1_109])), (a 11, .inl (g 0, 120, .inl (fun i => nI (tp i)))), (kn, .inl (g 0, 128, .inl (fun i => nI (C1_109 i)))), (km, .inl (g 0, 128, .inl (fun i => nI (X1_109 i))))] sS H locs := G
        have zb_109 := zg_le (em := zg_em) (ln := ln) ht (d) (0) (op + 1) (p + 1) ((ns, CN, XN)) (by omega) (by omega) (by omega) (by omega)
        obtain ⟨w_109, hns_109⟩ := w_109
        have hns_109 : ns1_109 ≤ 128 := hns_109
        rcases hz_109 : zg tp ln zg_em d 0 (op + 1) (p + 1) (ns, CN, XN) with e | ⟨a9, n9, C9, X9⟩
        · obtain ⟨h1_109, h2_109⟩ := zg_pl w_109 hz_109
          obtain rfl : p1_109 = e := h1_109
          obtain rfl : ft1_109 = nI p1_109 := h2_109
          have hb_109 := zb_109
          rw [hz_109] at hb_109
          have hp_109 : p1_109 ≤ ln := hb_109.2
          refine lv_aload_n Z.1 Z.2.1 dX2_readOne_112 rfl (lv_at hl 1 rfl) ?_
          refine zk_cv (WF := fun (_ : Unit) => [(a 1, .inr (2, [.ref (a 10), .ref (a 11), .ref (a 12), .ref kc, .ref kv, .ref kn, .ref km, .int (nI sz), .int (nI ns1_109), .int (nI ln), .int (nI (if (nI p1_109) < 0 ∧ zg_c tp ln p1_109 = 41 then p1_109 + 1 else p1_109)), .int (if (nI p1_109) < 0 ∧ ¬ zg_c tp ln p1_109 = 41 then nI p1_109 else (nI p1_109))])), (a 11, .inl (g 0, 120, .inl (fun i => nI (tp i)))), (kn, .inl (g 0, 128, .inl (fun i => nI (C1_109 i)))), (km, .inl (g 0, 128, .inl (fun i => nI (X1_109 i))))]) (wr := [(kn, .inl (g 0, 128, .inl (fun i => nI (C1_109 i)))), (km, .inl (g 0, 128, .inl (fun i => nI (X1_109 i))))]) ⟨rfl, rfl⟩ (zk_rv (As := []) (rest := []) (q0 := 0) (ci := 2) Z ((ct_X2_close l D g τ a kc kv kn km sz ns1_109 ln p1_109 (nI p1_109) tp (by exact hln) (by omega) (by exact ht)) H.size) hK hT hA G [0, 1] rfl (by decide) rfl rfl gX2_readOne_X2_close rfl dvX2_close ⟨by first | decide | (simp only [rm_X2_readPart, rm_X2_readOne]; omega), by first | decide | (simp only [rm_X2_readPart, rm_X2_readOne]; omega)⟩ rfl hl.1 rfl (Nat.le_of_ble_eq_true rfl) dX2_readOne_113 ⟨Nat.zero_le _, Nat.zero_le _⟩) hA G [0, 1] [2, 3] [2, 3, 0, 1] rfl rfl (by decide) (by decide) (by decide) (fun _ => rfl) (fun _ H locs w_113 G => ?_)
          have G : zk_G D aA [(a 1, .inr (2, [.ref (a 10), .ref (a 11), .ref (a 12), .ref kc, .ref kv, .ref kn, .ref km, .int (nI sz), .int (nI ns1_109), .int (nI ln), .int (nI p1_109), .int (nI p1_109)])), (a 11, .inl (g 0, 120, .inl (fun i => nI (tp i)))), (kn, .inl (g 0, 128, .inl (fun i => nI (C1_109 i)))), (km, .inl (g 0, 128, .inl (fun i => nI (X1_109 i))))] sS H locs := (by rw [if_neg (fun q9 => nI_pos (by omega) q9.1), if_neg (fun q9 => nI_pos (by omega) q9.1)] at G; exact G)
          refine lv_goto (tgt := 153) Z.1 Z.2.1 dX2_readOne_116 (by decide) ?_
          exact zk_retv Z hR_ hlk hK hQ G (p1_109, nI p1_109, ns1_109, C1_109, X1_109) ⟨(by simp only [zg]; rw [if_neg (by decide), if_neg hdg, if_neg hnm9, if_neg hgood, if_pos c91, hz_109]; exact ⟨rfl, rfl⟩), hns_109⟩ rfl dX2_readOne_153
        · obtain ⟨h1_109, h2_109, h3_109⟩ := zg_pr w_109 hz_109
          obtain rfl : p1_109 = a9 := h1_109
          obtain rfl : ft1_109 = -1 := h2_109
          obtain ⟨rfl, rfl, rfl⟩ : ns1_109 = n9 ∧ C1_109 = C9 ∧ X1_109 = X9 := by
            have h4 := h3_109
            simp only [Prod.mk.injEq] at h4
            exact h4
          have hb_109 := zb_109
          rw [hz_109] at hb_109
          have hp_109 : p1_109 ≤ ln := hb_109.2
          refine lv_aload_n Z.1 Z.2.1 dX2_readOne_112 rfl (lv_at hl 1 rfl) ?_
          refine zk_cv (WF := fun (_ : Unit) => [(a 1, .inr (2, [.ref (a 10), .ref (a 11), .ref (a 12), .ref kc, .ref kv, .ref kn, .ref km, .int (nI sz), .int (nI ns1_109), .int (nI ln), .int (nI (if (-1) < 0 ∧ zg_c tp ln p1_109 = 41 then p1_109 + 1 else p1_109)), .int (if (-1) < 0 ∧ ¬ zg_c tp ln p1_109 = 41 then nI p1_109 else (-1))])), (a 11, .inl (g 0, 120, .inl (fun i => nI (tp i)))), (kn, .inl (g 0, 128, .inl (fun i => nI (C1_109 i)))), (km, .inl (g 0, 128, .inl (fun i => nI (X1_109 i))))]) (wr := [(kn, .inl (g 0, 128, .inl (fun i => nI (C1_109 i)))), (km, .inl (g 0, 128, .inl (fun i => nI (X1_109 i))))]) ⟨rfl, rfl⟩ (zk_rv (As := []) (rest := []) (q0 := 0) (ci := 2) Z ((ct_X2_close l D g τ a kc kv kn km sz ns1_109 ln p1_109 (-1) tp (by exact hln) (by omega) (by exact ht)) H.size) hK hT hA G [0, 1] rfl (by decide) rfl rfl gX2_readOne_X2_close rfl dvX2_close ⟨by first | decide | (simp only [rm_X2_readPart, rm_X2_readOne]; omega), by first | decide | (simp only [rm_X2_readPart, rm_X2_readOne]; omega)⟩ rfl hl.1 rfl (Nat.le_of_ble_eq_true rfl) dX2_readOne_113 ⟨Nat.zero_le _, Nat.zero_le _⟩) hA G [0, 1] [2, 3] [2, 3, 0, 1] rfl rfl (by decide) (by decide) (by decide) (fun _ => rfl) (fun _ H locs w_113 G => ?_)
          by_cases h41 : zg_c tp ln p1_109 = 41
          · have G : zk_G D aA [(a 1, .inr (2, [.ref (a 10), .ref (a 11), .ref (a 12), .ref kc, .ref kv, .ref kn, .ref km, .int (nI sz), .int (nI ns1_109), .int (nI ln), .int (nI (p1_109 + 1)), .int (-1)])), (a 11, .inl (g 0, 120, .inl (fun i => nI (tp i)))), (kn, .inl (g 0, 128, .inl (fun i => nI (C1_109 i)))), (km, .inl (g 0, 128, .inl (fun i => nI (X1_109 i))))] sS H locs := (by rw [if_pos ⟨by decide, h41⟩, if_neg (fun q9 => q9.2 h41)] at G; exact G)
            refine lv_goto (tgt := 153) Z.1 Z.2.1 dX2_readOne_116 (by decide) ?_
            exact zk_retv Z hR_ hlk hK hQ G (p1_109 + 1, -1, ns1_109, C1_109, X1_109) ⟨(by simp only [zg]; rw [if_neg (by decide), if_neg hdg, if_neg hnm9, if_neg hgood, if_pos c91, hz_109]; simp only; rw [if_pos h41]; exact ⟨rfl, rfl, rfl⟩), hns_109⟩ rfl dX2_readOne_153
          have G : zk_G D aA [(a 1, .inr (2, [.ref (a 10), .ref (a 11), .ref (a 12), .ref kc, .ref kv, .ref kn, .ref km, .int (nI sz), .int (nI ns1_109), .int (nI ln), .int (nI p1_109), .int (nI p1_109)])), (a 11, .inl (g 0, 120, .inl (fun i => nI (tp i)))), (kn, .inl (g 0, 128, .inl (fun i => nI (C1_109 i)))), (km, .inl (g 0, 128, .inl (fun i => nI (X1_109 i))))] sS H locs := (by rw [if_neg (fun q9 => h41 q9.2), if_pos ⟨by decide, h41⟩] at G; exact G)
          refine lv_goto (tgt := 153) Z.1 Z.2.1 dX2_readOne_116 (by decide) ?_
          exact zk_retv Z hR_ hlk hK hQ G (p1_109, nI p1_109, ns1_109, C1_109, X1_109) ⟨(by simp only [zg]; rw [if_neg (by decide), if_neg hdg, if_neg hnm9, if_neg hgood, if_pos c91, hz_109]; simp only; rw [if_neg h41]; exact ⟨rfl, rfl⟩), hns_109⟩ rfl dX2_readOne_153
      have c62 : ¬ zg_c tp ln p = 40 := fun q9 => c62 ((zg_l_eq ht (by decide) (by decide)).mpr q9)
      refine lv_iload_n Z.1 Z.2.1 dX2_readOne_65 rfl (lv_at hl 0 rfl) ?_
      refine lv_bipush (v := nI 33) Z.1 Z.2.1 dX2_readOne_66 (by decide +kernel) ?_
      refine lv_icmp_eq (tgt := 88) Z.1 Z.2.1 dX2_readOne_68 (by decide) (fun c68 => ?_) (fun c68 => ?_)
      · have c68 : zg_c tp ln p = 33 := (zg_l_eq ht (by decide) (by decide)).mp c68
        have hgood : ¬ (6 ≤ op ∨ ¬ (zg_c tp ln p = 40 ∨ zg_c tp ln p = 33 ∨ zg_c tp ln p = 45)) := by omega
        have hpl : p < ln := zg_c_lt (tp := tp) (by omega)
        refine lv_iload_n Z.1 Z.2.1 dX2_readOne_88 rfl (lv_at hl 0 rfl) ?_
        refine lv_bipush (v := nI 40) Z.1 Z.2.1 dX2_readOne_89 (by decide +kernel) ?_
        refine lv_icmp_ne (tgt := 119) Z.1 Z.2.1 dX2_readOne_91 (by decide) (fun c91 => ?_) (fun c91 => ?_)
        · have c91 : ¬ zg_c tp ln p = 40 := fun q9 => c91 ((zg_l_eq ht (by decide) (by decide)).mpr q9)
          refine lv_aload_n Z.1 Z.2.1 dX2_readOne_119 rfl (lv_at hl 1 rfl) ?_
          refine lv_dup Z.1 Z.2.1 dX2_readOne_120 rfl ?_
          refine zk_get (C := RX2) (T := TX2) (N := 12) (ci := 2) Z hK G hinX2 0 rfl rfl 10 (by decide) (List.mem_of_getElem? (i := 1) rfl) rfl (v := .int (nI p)) rfl dX2_readOne_121 ?_
          refine lv_iconst (v := nI 1) Z.1 Z.2.1 dX2_readOne_124 (by decide +kernel) ?_
          refine zk_iadd Z dX2_readOne_125 (z := nI (p + 1)) (nI_add _ _) ?_
          refine zk_put tyX2 tyX2_ok nmX2 (C := RX2) (T := TX2) (N := 12) (ci := 2) Z hK G hinX2 0 rfl rfl 10 (by decide) (List.mem_of_getElem? (i := 1) rfl) rfl rfl rfl rfl (Nat.le_of_ble_eq_true rfl) (ws' := [(a 1, .inr (2, [.ref (a 10), .ref (a 11), .ref (a 12), .ref kc, .ref kv, .ref kn, .ref km, .int (nI sz), .int (nI ns), .int (nI ln), .int (nI (p + 1)), .int (-1)])), (a 11, .inl (g 0, 120, .inl (fun i => nI (tp i)))), (kn, .inl (g 0, 128, .inl (fun i => nI (CN i)))), (km, .inl (g 0, 128, .inl (fun i => nI (XN i))))]) rfl dX2_readOne_126 (fun H locs G => ?_)
          refine lv_aload_n Z.1 Z.2.1 dX2_readOne_129 rfl (lv_at hl 1 rfl) ?_
          refine lv_iload_n Z.1 Z.2.1 dX2_readOne_130 rfl (lv_at hl 2 rfl) ?_
          refine lv_iconst (v := nI 1) Z.1 Z.2.1 dX2_readOne_131 (by decide +kernel) ?_
          refine zk_iadd Z dX2_readOne_132 (z := nI (op + 1)) (nI_add _ _) ?_
          refine zk_cv (WF := fun uu => [(a 1, .inr (2, [.ref (a 10), .ref (a 11), .ref (a 12), .ref kc, .ref kv, .ref kn, .ref km, .int (nI sz), .int (nI uu.2.2.1), .int (nI ln), .int (nI uu.1), .int uu.2.1])), (a 11, .inl (g 0, 120, .inl (fun i => nI (tp i)))), (kn, .inl (g 0, 128, .inl (fun i => nI (uu.2.2.2.1 i)))), (km, .inl (g 0, 128, .inl (fun i => nI (uu.2.2.2.2 i))))]) (wr := []) ⟨rfl, rfl⟩ (zk_rv (As := [.int (nI (op + 1))]) (rest := []) (q0 := 0) (ci := 2) Z ((ihO a kc kv kn km sz ns ln (p + 1) tp CN XN (op + 1) (by exact hln) (by omega) (by exact ht) (by exact hns) (by omega) (by omega)) H.size) hK hT hA G [0, 1, 2, 3] rfl (by decide) rfl rfl gX2_readOne_X2_readOne rfl dvX2_readOne ⟨by first | decide | (simp only [rm_X2_readPart, rm_X2_readOne]; omega), by first | decide | (simp only [rm_X2_readPart, rm_X2_readOne]; omega)⟩ rfl hl.1 rfl (Nat.le_of_ble_eq_true rfl) dX2_readOne_133 ⟨Nat.zero_le _, Nat.zero_le _⟩) hA G [0, 1, 2, 3] [] [0, 1, 2, 3] rfl rfl (by decide) (by decide) (by decide) (fun _ => rfl) (fun uu H locs w_133 G => ?_)
          obtain ⟨p1_133, ft1_133, ns1_133, C1_133, X1_133⟩ := uu
          have G : zk_G D aA [(a 1, .inr (2, [.ref (a 10), .ref (a 11), .ref (a 12), .ref kc, .ref kv, .ref kn, .ref km, .int (nI sz), .int (nI ns1_133), .int (nI ln), .int (nI p1_133), .int ft1_133])), (a 11, .inl (g 0, 120, .inl (fun i => nI (tp i)))), (kn, .inl (g 0, 128, .inl (fun i => nI (C1_133 i)))), (km, .inl (g 0, 128, .inl (fun i => nI (X1_133 i))))] sS H locs := G
          have zb_133 := zg_le (em := zg_em) (ln := ln) ht (d) (5) (op + 1) (p + 1) ((ns, CN, XN)) (by omega) (by omega) (by omega) (by omega)
          obtain ⟨w_133, hns_133⟩ := w_133
          have hns_133 : ns1_133 ≤ 128 := hns_133
          rcases hz_133 : zg tp ln zg_em d 5 (op + 1) (p + 1) (ns, CN, XN) with e | ⟨a9, n9, C9, X9⟩
          · obtain ⟨h1_133, h2_133⟩ := zg_pl w_133 hz_133
            obtain rfl : p1_133 = e := h1_133
            obtain rfl : ft1_133 = nI p1_133 := h2_133
            have hb_133 := zb_133
            rw [hz_133] at hb_133
            have hp_133 : p1_133 ≤ ln := hb_133.2
            refine lv_aload_n Z.1 Z.2.1 dX2_readOne_136 rfl (lv_at hl 1 rfl) ?_
            refine lv_iload_n Z.1 Z.2.1 dX2_readOne_137 rfl (lv_at hl 0 rfl) ?_
            refine lv_bipush (v := nI 33) Z.1 Z.2.1 dX2_readOne_138 (by decide +kernel) ?_
            refine lv_icmp_ne (tgt := 148) Z.1 Z.2.1 dX2_readOne_140 (by decide) (fun c140 => ?_) (fun c140 => ?_)
            · have c140 : ¬ zg_c tp ln p = 33 := fun q9 => c140 ((zg_l_eq ht (by decide) (by decide)).mpr q9)
              refine lv_iconst (v := nI 5) Z.1 Z.2.1 dX2_readOne_148 (by decide +kernel) ?_
              refine lv_iconst (v := nI 0) Z.1 Z.2.1 dX2_readOne_149 (by decide +kernel) ?_
              refine zk_cv (WF := fun (_ : Unit) => [(a 1, .inr (2, [.ref (a 10), .ref (a 11), .ref (a 12), .ref kc, .ref kv, .ref kn, .ref km, .int (nI sz), .int (nI ((zg_em 5 0 (ns1_133, C1_133, X1_133)).1)), .int (nI ln), .int (nI p1_133), .int (nI p1_133)])), (a 11, .inl (g 0, 120, .inl (fun i => nI (tp i)))), (kn, .inl (g 0, 128, .inl (fun i => nI ((zg_em 5 0 (ns1_133, C1_133, X1_133)).2.1 i)))), (km, .inl (g 0, 128, .inl (fun i => nI ((zg_em 5 0 (ns1_133, C1_133, X1_133)).2.2 i))))]) (wr := [(a 11, .inl (g 0, 120, .inl (fun i => nI (tp i))))]) ⟨rfl, rfl⟩ (zk_rv (As := [.int (nI 5), .int (nI 0)]) (rest := []) (q0 := 0) (ci := 2) Z ((ct_X2_emit l D g τ a kc kv kn km sz ns1_133 ln p1_133 (nI p1_133) C1_133 X1_133 5 0 (by omega)) H.size) hK hT hA G [0, 2, 3] rfl (by decide) rfl rfl gX2_readOne_X2_emit rfl dvX2_emit ⟨by first | decide | (simp only [rm_X2_readPart, rm_X2_readOne]; omega), by first | decide | (simp only [rm_X2_readPart, rm_X2_readOne]; omega)⟩ rfl hl.1 rfl (Nat.le_of_ble_eq_true rfl) dX2_readOne_150 ⟨Nat.zero_le _, Nat.zero_le _⟩) hA G [0, 2, 3] [1] [1, 0, 2, 3] rfl rfl (by decide) (by decide) (by decide) (fun _ => rfl) (fun _ H locs w_150 G => ?_)
              exact zk_retv Z hR_ hlk hK hQ G (p1_133, nI p1_133, (zg_em 5 0 (ns1_133, C1_133, X1_133)).1, (zg_em 5 0 (ns1_133, C1_133, X1_133)).2.1, (zg_em 5 0 (ns1_133, C1_133, X1_133)).2.2) ⟨(by simp only [zg]; rw [if_neg (by decide), if_neg hdg, if_neg hnm9, if_neg hgood, if_neg c91, hz_133]; exact ⟨rfl, rfl⟩), zg_em_le _ _ hns_133⟩ rfl dX2_readOne_153
            have c140 : zg_c tp ln p = 33 := (zg_l_eq ht (by decide) (by decide)).mp c140
            refine lv_bipush (v := nI 6) Z.1 Z.2.1 dX2_readOne_143 (by decide +kernel) ?_
            refine lv_goto (tgt := 149) Z.1 Z.2.1 dX2_readOne_145 (by decide) ?_
            refine lv_iconst (v := nI 0) Z.1 Z.2.1 dX2_readOne_149 (by decide +kernel) ?_
            refine zk_cv (WF := fun (_ : Unit) => [(a 1, .inr (2, [.ref (a 10), .ref (a 11), .ref (a 12), .ref kc, .ref kv, .ref kn, .ref km, .int (nI sz), .int (nI ((zg_em 6 0 (ns1_133, C1_133, X1_133)).1)), .int (nI ln), .int (nI p1_133), .int (nI p1_133)])), (a 11, .inl (g 0, 120, .inl (fun i => nI (tp i)))), (kn, .inl (g 0, 128, .inl (fun i => nI ((zg_em 6 0 (ns1_133, C1_133, X1_133)).2.1 i)))), (km, .inl (g 0, 128, .inl (fun i => nI ((zg_em 6 0 (ns1_133, C1_133, X1_133)).2.2 i))))]) (wr := [(a 11, .inl (g 0, 120, .inl (fun i => nI (tp i))))]) ⟨rfl, rfl⟩ (zk_rv (As := [.int (nI 6), .int (nI 0)]) (rest := []) (q0 := 0) (ci := 2) Z ((ct_X2_emit l D g τ a kc kv kn km sz ns1_133 ln p1_133 (nI p1_133) C1_133 X1_133 6 0 (by omega)) H.size) hK hT hA G [0, 2, 3] rfl (by decide) rfl rfl gX2_readOne_X2_emit rfl dvX2_emit ⟨by first | decide | (simp only [rm_X2_readPart, rm_X2_readOne]; omega), by first | decide | (simp only [rm_X2_readPart, rm_X2_readOne]; omega)⟩ rfl hl.1 rfl (Nat.le_of_ble_eq_true rfl) dX2_readOne_150 ⟨Nat.zero_le _, Nat.zero_le _⟩) hA G [0, 2, 3] [1] [1, 0, 2, 3] rfl rfl (by decide) (by decide) (by decide) (fun _ => rfl) (fun _ H locs w_150 G => ?_)
            exact zk_retv Z hR_ hlk hK hQ G (p1_133, nI p1_133, (zg_em 6 0 (ns1_133, C1_133, X1_133)).1, (zg_em 6 0 (ns1_133, C1_133, X1_133)).2.1, (zg_em 6 0 (ns1_133, C1_133, X1_133)).2.2) ⟨(by simp only [zg]; rw [if_neg (by decide), if_neg hdg, if_neg hnm9, if_neg hgood, if_neg c91, hz_133]; exact ⟨rfl, rfl⟩), zg_em_le _ _ hns_133⟩ rfl dX2_readOne_153
          · obtain ⟨h1_133, h2_133, h3_133⟩ := zg_pr w_133 hz_133
            obtain rfl : p1_133 = a9 := h1_133
            obtain rfl : ft1_133 = -1 := h2_133
            obtain ⟨rfl, rfl, rfl⟩ : ns1_133 = n9 ∧ C1_133 = C9 ∧ X1_133 = X9 := by
              have h4 := h3_133
              simp only [Prod.mk.injEq] at h4
              exact h4
            have hb_133 := zb_133
            rw [hz_133] at hb_133
            have hp_133 : p1_133 ≤ ln := hb_133.2
            refine lv_aload_n Z.1 Z.2.1 dX2_readOne_136 rfl (lv_at hl 1 rfl) ?_
            refine lv_iload_n Z.1 Z.2.1 dX2_readOne_137 rfl (lv_at hl 0 rfl) ?_
            refine lv_bipush (v := nI 33) Z.1 Z.2.1 dX2_readOne_138 (by decide +kernel) ?_
            refine lv_icmp_ne (tgt := 148) Z.1 Z.2.1 dX2_readOne_140 (by decide) (fun c140 => ?_) (fun c140 => ?_)
            · have c140 : ¬ zg_c tp ln p = 33 := fun q9 => c140 ((zg_l_eq ht (by decide) (by decide)).mpr q9)
              refine lv_iconst (v := nI 5) Z.1 Z.2.1 dX2_readOne_148 (by decide +kernel) ?_
              refine lv_iconst (v := nI 0) Z.1 Z.2.1 dX2_readOne_149 (by decide +kernel) ?_
              refine zk_cv (WF := fun (_ : Unit) => [(a 1, .inr (2, [.ref (a 10), .ref (a 11), .ref (a 12), .ref kc, .ref kv, .ref kn, .ref km, .int (nI sz), .int (nI ((zg_em 5 0 (ns1_133, C1_133, X1_133)).1)), .int (nI ln), .int (nI p1_133), .int (-1)])), (a 11, .inl (g 0, 120, .inl (fun i => nI (tp i)))), (kn, .inl (g 0, 128, .inl (fun i => nI ((zg_em 5 0 (ns1_133, C1_133, X1_133)).2.1 i)))), (km, .inl (g 0, 128, .inl (fun i => nI ((zg_em 5 0 (ns1_133, C1_133, X1_133)).2.2 i))))]) (wr := [(a 11, .inl (g 0, 120, .inl (fun i => nI (tp i))))]) ⟨rfl, rfl⟩ (zk_rv (As := [.int (nI 5), .int (nI 0)]) (rest := []) (q0 := 0) (ci := 2) Z ((ct_X2_emit l D g τ a kc kv kn km sz ns1_133 ln p1_133 (-1) C1_133 X1_133 5 0 (by omega)) H.size) hK hT hA G [0, 2, 3] rfl (by decide) rfl rfl gX2_readOne_X2_emit rfl dvX2_emit ⟨by first | decide | (simp only [rm_X2_readPart, rm_X2_readOne]; omega), by first | decide | (simp only [rm_X2_readPart, rm_X2_readOne]; omega)⟩ rfl hl.1 rfl (Nat.le_of_ble_eq_true rfl) dX2_readOne_150 ⟨Nat.zero_le _, Nat.zero_le _⟩) hA G [0, 2, 3] [1] [1, 0, 2, 3] rfl rfl (by decide) (by decide) (by decide) (fun _ => rfl) (fun _ H locs w_150 G => ?_)
              exact zk_retv Z hR_ hlk hK hQ G (p1_133, (-1), (zg_em 5 0 (ns1_133, C1_133, X1_133)).1, (zg_em 5 0 (ns1_133, C1_133, X1_133)).2.1, (zg_em 5 0 (ns1_133, C1_133, X1_133)).2.2) ⟨(by simp only [zg]; rw [if_neg (by decide), if_neg hdg, if_neg hnm9, if_neg hgood, if_neg c91, hz_133]; simp only; rw [if_neg c140]; exact ⟨rfl, rfl, rfl⟩), zg_em_le _ _ hns_133⟩ rfl dX2_readOne_153
            have c140 : zg_c tp ln p = 33 := (zg_l_eq ht (by decide) (by decide)).mp c140
            refine lv_bipush (v := nI 6) Z.1 Z.2.1 dX2_readOne_143 (by decide +kernel) ?_
            refine lv_goto (tgt := 149) Z.1 Z.2.1 dX2_readOne_145 (by decide) ?_
            refine lv_iconst (v := nI 0) Z.1 Z.2.1 dX2_readOne_149 (by decide +kernel) ?_
            refine zk_cv (WF := fun (_ : Unit) => [(a 1, .inr (2, [.ref (a 10), .ref (a 11), .ref (a 12), .ref kc, .ref kv, .ref kn, .ref km, .int (nI sz), .int (nI ((zg_em 6 0 (ns1_133, C1_133, X1_133)).1)), .int (nI ln), .int (nI p1_133), .int (-1)])), (a 11, .inl (g 0, 120, .inl (fun i => nI (tp i)))), (kn, .inl (g 0, 128, .inl (fun i => nI ((zg_em 6 0 (ns1_133, C1_133, X1_133)).2.1 i)))), (km, .inl (g 0, 128, .inl (fun i => nI ((zg_em 6 0 (ns1_133, C1_133, X1_133)).2.2 i))))]) (wr := [(a 11, .inl (g 0, 120, .inl (fun i => nI (tp i))))]) ⟨rfl, rfl⟩ (zk_rv (As := [.int (nI 6), .int (nI 0)]) (rest := []) (q0 := 0) (ci := 2) Z ((ct_X2_emit l D g τ a kc kv kn km sz ns1_133 ln p1_133 (-1) C1_133 X1_133 6 0 (by omega)) H.size) hK hT hA G [0, 2, 3] rfl (by decide) rfl rfl gX2_readOne_X2_emit rfl dvX2_emit ⟨by first | decide | (simp only [rm_X2_readPart, rm_X2_readOne]; omega), by first | decide | (simp only [rm_X2_readPart, rm_X2_readOne]; omega)⟩ rfl hl.1 rfl (Nat.le_of_ble_eq_true rfl) dX2_readOne_150 ⟨Nat.zero_le _, Nat.zero_le _⟩) hA G [0, 2, 3] [1] [1, 0, 2, 3] rfl rfl (by decide) (by decide) (by decide) (fun _ => rfl) (fun _ H locs w_150 G => ?_)
            exact zk_retv Z hR_ hlk hK hQ G (p1_133, (-1), (zg_em 6 0 (ns1_133, C1_133, X1_133)).1, (zg_em 6 0 (ns1_133, C1_133, X1_133)).2.1, (zg_em 6 0 (ns1_133, C1_133, X1_133)).2.2) ⟨(by simp only [zg]; rw [if_neg (by decide), if_neg hdg, if_neg hnm9, if_neg hgood, if_neg c91, hz_133]; simp only; rw [if_pos c140]; exact ⟨rfl, rfl, rfl⟩), zg_em_le _ _ hns_133⟩ rfl dX2_readOne_153
        exfalso
        have c91 : zg_c tp ln p = 40 := (zg_l_eq ht (by decide) (by decide)).mp c91
        omega
      have c68 : ¬ zg_c tp ln p = 33 := fun q9 => c68 ((zg_l_eq ht (by decide) (by decide)).mpr q9)
      refine lv_iload_n Z.1 Z.2.1 dX2_readOne_71 rfl (lv_at hl 0 rfl) ?_
      refine lv_bipush (v := nI 45) Z.1 Z.2.1 dX2_readOne_72 (by decide +kernel) ?_
      refine lv_icmp_eq (tgt := 88) Z.1 Z.2.1 dX2_readOne_74 (by decide) (fun c74 => ?_) (fun c74 => ?_)
      · have c74 : zg_c tp ln p = 45 := (zg_l_eq ht (by decide) (by decide)).mp c74
        have hgood : ¬ (6 ≤ op ∨ ¬ (zg_c tp ln p = 40 ∨ zg_c tp ln p = 33 ∨ zg_c tp ln p = 45)) := by omega
        have hpl : p < ln := zg_c_lt (tp := tp) (by omega)
        refine lv_iload_n Z.1 Z.2.1 dX2_readOne_88 rfl (lv_at hl 0 rfl) ?_
        refine lv_bipush (v := nI 40) Z.1 Z.2.1 dX2_readOne_89 (by decide +kernel) ?_
        refine lv_icmp_ne (tgt := 119) Z.1 Z.2.1 dX2_readOne_91 (by decide) (fun c91 => ?_) (fun c91 => ?_)
        · have c91 : ¬ zg_c tp ln p = 40 := fun q9 => c91 ((zg_l_eq ht (by decide) (by decide)).mpr q9)
          refine lv_aload_n Z.1 Z.2.1 dX2_readOne_119 rfl (lv_at hl 1 rfl) ?_
          refine lv_dup Z.1 Z.2.1 dX2_readOne_120 rfl ?_
          refine zk_get (C := RX2) (T := TX2) (N := 12) (ci := 2) Z hK G hinX2 0 rfl rfl 10 (by decide) (List.mem_of_getElem? (i := 1) rfl) rfl (v := .int (nI p)) rfl dX2_readOne_121 ?_
          refine lv_iconst (v := nI 1) Z.1 Z.2.1 dX2_readOne_124 (by decide +kernel) ?_
          refine zk_iadd Z dX2_readOne_125 (z := nI (p + 1)) (nI_add _ _) ?_
          refine zk_put tyX2 tyX2_ok nmX2 (C := RX2) (T := TX2) (N := 12) (ci := 2) Z hK G hinX2 0 rfl rfl 10 (by decide) (List.mem_of_getElem? (i := 1) rfl) rfl rfl rfl rfl (Nat.le_of_ble_eq_true rfl) (ws' := [(a 1, .inr (2, [.ref (a 10), .ref (a 11), .ref (a 12), .ref kc, .ref kv, .ref kn, .ref km, .int (nI sz), .int (nI ns), .int (nI ln), .int (nI (p + 1)), .int (-1)])), (a 11, .inl (g 0, 120, .inl (fun i => nI (tp i)))), (kn, .inl (g 0, 128, .inl (fun i => nI (CN i)))), (km, .inl (g 0, 128, .inl (fun i => nI (XN i))))]) rfl dX2_readOne_126 (fun H locs G => ?_)
          refine lv_aload_n Z.1 Z.2.1 dX2_readOne_129 rfl (lv_at hl 1 rfl) ?_
          refine lv_iload_n Z.1 Z.2.1 dX2_readOne_130 rfl (lv_at hl 2 rfl) ?_
          refine lv_iconst (v := nI 1) Z.1 Z.2.1 dX2_readOne_131 (by decide +kernel) ?_
          refine zk_iadd Z dX2_readOne_132 (z := nI (op + 1)) (nI_add _ _) ?_
          refine zk_cv (WF := fun uu => [(a 1, .inr (2, [.ref (a 10), .ref (a 11), .ref (a 12), .ref kc, .ref kv, .ref kn, .ref km, .int (nI sz), .int (nI uu.2.2.1), .int (nI ln), .int (nI uu.1), .int uu.2.1])), (a 11, .inl (g 0, 120, .inl (fun i => nI (tp i)))), (kn, .inl (g 0, 128, .inl (fun i => nI (uu.2.2.2.1 i)))), (km, .inl (g 0, 128, .inl (fun i => nI (uu.2.2.2.2 i))))]) (wr := []) ⟨rfl, rfl⟩ (zk_rv (As := [.int (nI (op + 1))]) (rest := []) (q0 := 0) (ci := 2) Z ((ihO a kc kv kn km sz ns ln (p + 1) tp CN XN (op + 1) (by exact hln) (by omega) (by exact ht) (by exact hns) (by omega) (by omega)) H.size) hK hT hA G [0, 1, 2, 3] rfl (by decide) rfl rfl gX2_readOne_X2_readOne rfl dvX2_readOne ⟨by first | decide | (simp only [rm_X2_readPart, rm_X2_readOne]; omega), by first | decide | (simp only [rm_X2_readPart, rm_X2_readOne]; omega)⟩ rfl hl.1 rfl (Nat.le_of_ble_eq_true rfl) dX2_readOne_133 ⟨Nat.zero_le _, Nat.zero_le _⟩) hA G [0, 1, 2, 3] [] [0, 1, 2, 3] rfl rfl (by decide) (by decide) (by decide) (fun _ => rfl) (fun uu H locs w_133 G => ?_)
          obtain ⟨p1_133, ft1_133, ns1_133, C1_133, X1_133⟩ := uu
          have G : zk_G D aA [(a 1, .inr (2, [.ref (a 10), .ref (a 11), .ref (a 12), .ref kc, .ref kv, .ref kn, .ref km, .int (nI sz), .int (nI ns1_133), .int (nI ln), .int (nI p1_133), .int ft1_133])), (a 11, .inl (g 0, 120, .inl (fun i => nI (tp i)))), (kn, .inl (g 0, 128, .inl (fun i => nI (C1_133 i)))), (km, .inl (g 0, 128, .inl (fun i => nI (X1_133 i))))] sS H locs := G
          have zb_133 := zg_le (em := zg_em) (ln := ln) ht (d) (5) (op + 1) (p + 1) ((ns, CN, XN)) (by omega) (by omega) (by omega) (by omega)
          obtain ⟨w_133, hns_133⟩ := w_133
          have hns_133 : ns1_133 ≤ 128 := hns_133
          rcases hz_133 : zg tp ln zg_em d 5 (op + 1) (p + 1) (ns, CN, XN) with e | ⟨a9, n9, C9, X9⟩
          · obtain ⟨h1_133, h2_133⟩ := zg_pl w_133 hz_133
            obtain rfl : p1_133 = e := h1_133
            obtain rfl : ft1_133 = nI p1_133 := h2_133
            have hb_133 := zb_133
            rw [hz_133] at hb_133
            have hp_133 : p1_133 ≤ ln := hb_133.2
            refine lv_aload_n Z.1 Z.2.1 dX2_readOne_136 rfl (lv_at hl 1 rfl) ?_
            refine lv_iload_n Z.1 Z.2.1 dX2_readOne_137 rfl (lv_at hl 0 rfl) ?_
            refine lv_bipush (v := nI 33) Z.1 Z.2.1 dX2_readOne_138 (by decide +kernel) ?_
            refine lv_icmp_ne (tgt := 148) Z.1 Z.2.1 dX2_readOne_140 (by decide) (fun c140 => ?_) (fun c140 => ?_)
            · have c140 : ¬ zg_c tp ln p = 33 := fun q9 => c140 ((zg_l_eq ht (by decide) (by decide)).mpr q9)
              refine lv_iconst (v := nI 5) Z.1 Z.2.1 dX2_readOne_148 (by decide +kernel) ?_
              refine lv_iconst (v := nI 0) Z.1 Z.2.1 dX2_readOne_149 (by decide +kernel) ?_
              refine zk_cv (WF := fun (_ : Unit) => [(a 1, .inr (2, [.ref (a 10), .ref (a 11), .ref (a 12), .ref kc, .ref kv, .ref kn, .ref km, .int (nI sz), .int (nI ((zg_em 5 0 (ns1_133, C1_133, X1_133)).1)), .int (nI ln), .int (nI p1_133), .int (nI p1_133)])), (a 11, .inl (g 0, 120, .inl (fun i => nI (tp i)))), (kn, .inl (g 0, 128, .inl (fun i => nI ((zg_em 5 0 (ns1_133, C1_133, X1_133)).2.1 i)))), (km, .inl (g 0, 128, .inl (fun i => nI ((zg_em 5 0 (ns1_133, C1_133, X1_133)).2.2 i))))]) (wr := [(a 11, .inl (g 0, 120, .inl (fun i => nI (tp i))))]) ⟨rfl, rfl⟩ (zk_rv (As := [.int (nI 5), .int (nI 0)]) (rest := []) (q0 := 0) (ci := 2) Z ((ct_X2_emit l D g τ a kc kv kn km sz ns1_133 ln p1_133 (nI p1_133) C1_133 X1_133 5 0 (by omega)) H.size) hK hT hA G [0, 2, 3] rfl (by decide) rfl rfl gX2_readOne_X2_emit rfl dvX2_emit ⟨by first | decide | (simp only [rm_X2_readPart, rm_X2_readOne]; omega), by first | decide | (simp only [rm_X2_readPart, rm_X2_readOne]; omega)⟩ rfl hl.1 rfl (Nat.le_of_ble_eq_true rfl) dX2_readOne_150 ⟨Nat.zero_le _, Nat.zero_le _⟩) hA G [0, 2, 3] [1] [1, 0, 2, 3] rfl rfl (by decide) (by decide) (by decide) (fun _ => rfl) (fun _ H locs w_150 G => ?_)
              exact zk_retv Z hR_ hlk hK hQ G (p1_133, nI p1_133, (zg_em 5 0 (ns1_133, C1_133, X1_133)).1, (zg_em 5 0 (ns1_133, C1_133, X1_133)).2.1, (zg_em 5 0 (ns1_133, C1_133, X1_133)).2.2) ⟨(by simp only [zg]; rw [if_neg (by decide), if_neg hdg, if_neg hnm9, if_neg hgood, if_neg c91, hz_133]; exact ⟨rfl, rfl⟩), zg_em_le _ _ hns_133⟩ rfl dX2_readOne_153
            have c140 : zg_c tp ln p = 33 := (zg_l_eq ht (by decide) (by decide)).mp c140
            refine lv_bipush (v := nI 6) Z.1 Z.2.1 dX2_readOne_143 (by decide +kernel) ?_
            refine lv_goto (tgt := 149) Z.1 Z.2.1 dX2_readOne_145 (by decide) ?_
            refine lv_iconst (v := nI 0) Z.1 Z.2.1 dX2_readOne_149 (by decide +kernel) ?_
            refine zk_cv (WF := fun (_ : Unit) => [(a 1, .inr (2, [.ref (a 10), .ref (a 11), .ref (a 12), .ref kc, .ref kv, .ref kn, .ref km, .int (nI sz), .int (nI ((zg_em 6 0 (ns1_133, C1_133, X1_133)).1)), .int (nI ln), .int (nI p1_133), .int (nI p1_133)])), (a 11, .inl (g 0, 120, .inl (fun i => nI (tp i)))), (kn, .inl (g 0, 128, .inl (fun i => nI ((zg_em 6 0 (ns1_133, C1_133, X1_133)).2.1 i)))), (km, .inl (g 0, 128, .inl (fun i => nI ((zg_em 6 0 (ns1_133, C1_133, X1_133)).2.2 i))))]) (wr := [(a 11, .inl (g 0, 120, .inl (fun i => nI (tp i))))]) ⟨rfl, rfl⟩ (zk_rv (As := [.int (nI 6), .int (nI 0)]) (rest := []) (q0 := 0) (ci := 2) Z ((ct_X2_emit l D g τ a kc kv kn km sz ns1_133 ln p1_133 (nI p1_133) C1_133 X1_133 6 0 (by omega)) H.size) hK hT hA G [0, 2, 3] rfl (by decide) rfl rfl gX2_readOne_X2_emit rfl dvX2_emit ⟨by first | decide | (simp only [rm_X2_readPart, rm_X2_readOne]; omega), by first | decide | (simp only [rm_X2_readPart, rm_X2_readOne]; omega)⟩ rfl hl.1 rfl (Nat.le_of_ble_eq_true rfl) dX2_readOne_150 ⟨Nat.zero_le _, Nat.zero_le _⟩) hA G [0, 2, 3] [1] [1, 0, 2, 3] rfl rfl (by decide) (by decide) (by decide) (fun _ => rfl) (fun _ H locs w_150 G => ?_)
            exact zk_retv Z hR_ hlk hK hQ G (p1_133, nI p1_133, (zg_em 6 0 (ns1_133, C1_133, X1_133)).1, (zg_em 6 0 (ns1_133, C1_133, X1_133)).2.1, (zg_em 6 0 (ns1_133, C1_133, X1_133)).2.2) ⟨(by simp only [zg]; rw [if_neg (by decide), if_neg hdg, if_neg hnm9, if_neg hgood, if_neg c91, hz_133]; exact ⟨rfl, rfl⟩), zg_em_le _ _ hns_133⟩ rfl dX2_readOne_153
          · obtain ⟨h1_133, h2_133, h3_133⟩ := zg_pr w_133 hz_133
            obtain rfl : p1_133 = a9 := h1_133
            obtain rfl : ft1_133 = -1 := h2_133
            obtain ⟨rfl, rfl, rfl⟩ : ns1_133 = n9 ∧ C1_133 = C9 ∧ X1_133 = X9 := by
              have h4 := h3_133
              simp only [Prod.mk.injEq] at h4
              exact h4
            have hb_133 := zb_133
            rw [hz_133] at hb_133
            have hp_133 : p1_133 ≤ ln := hb_133.2
            refine lv_aload_n Z.1 Z.2.1 dX2_readOne_136 rfl (lv_at hl 1 rfl) ?_
            refine lv_iload_n Z.1 Z.2.1 dX2_readOne_137 rfl (lv_at hl 0 rfl) ?_
            refine lv_bipush (v := nI 33) Z.1 Z.2.1 dX2_readOne_138 (by decide +kernel) ?_
            refine lv_icmp_ne (tgt := 148) Z.1 Z.2.1 dX2_readOne_140 (by decide) (fun c140 => ?_) (fun c140 => ?_)
            · have c140 : ¬ zg_c tp ln p = 33 := fun q9 => c140 ((zg_l_eq ht (by decide) (by decide)).mpr q9)
              refine lv_iconst (v := nI 5) Z.1 Z.2.1 dX2_readOne_148 (by decide +kernel) ?_
              refine lv_iconst (v := nI 0) Z.1 Z.2.1 dX2_readOne_149 (by decide +kernel) ?_
              refine zk_cv (WF := fun (_ : Unit) => [(a 1, .inr (2, [.ref (a 10), .ref (a 11), .ref (a 12), .ref kc, .ref kv, .ref kn, .ref km, .int (nI sz), .int (nI ((zg_em 5 0 (ns1_133, C1_133, X1_133)).1)), .int (nI ln), .int (nI p1_133), .int (-1)])), (a 11, .inl (g 0, 120, .inl (fun i => nI (tp i)))), (kn, .inl (g 0, 128, .inl (fun i => nI ((zg_em 5 0 (ns1_133, C1_133, X1_133)).2.1 i)))), (km, .inl (g 0, 128, .inl (fun i => nI ((zg_em 5 0 (ns1_133, C1_133, X1_133)).2.2 i))))]) (wr := [(a 11, .inl (g 0, 120, .inl (fun i => nI (tp i))))]) ⟨rfl, rfl⟩ (zk_rv (As := [.int (nI 5), .int (nI 0)]) (rest := []) (q0 := 0) (ci := 2) Z ((ct_X2_emit l D g τ a kc kv kn km sz ns1_133 ln p1_133 (-1) C1_133 X1_133 5 0 (by omega)) H.size) hK hT hA G [0, 2, 3] rfl (by decide) rfl rfl gX2_readOne_X2_emit rfl dvX2_emit ⟨by first | decide | (simp only [rm_X2_readPart, rm_X2_readOne]; omega), by first | decide | (simp only [rm_X2_readPart, rm_X2_readOne]; omega)⟩ rfl hl.1 rfl (Nat.le_of_ble_eq_true rfl) dX2_readOne_150 ⟨Nat.zero_le _, Nat.zero_le _⟩) hA G [0, 2, 3] [1] [1, 0, 2, 3] rfl rfl (by decide) (by decide) (by decide) (fun _ => rfl) (fun _ H locs w_150 G => ?_)
              exact zk_retv Z hR_ hlk hK hQ G (p1_133, (-1), (zg_em 5 0 (ns1_133, C1_133, X1_133)).1, (zg_em 5 0 (ns1_133, C1_133, X1_133)).2.1, (zg_em 5 0 (ns1_133, C1_133, X1_133)).2.2) ⟨(by simp only [zg]; rw [if_neg (by decide), if_neg hdg, if_neg hnm9, if_neg hgood, if_neg c91, hz_133]; simp only; rw [if_neg c140]; exact ⟨rfl, rfl, rfl⟩), zg_em_le _ _ hns_133⟩ rfl dX2_readOne_153
            have c140 : zg_c tp ln p = 33 := (zg_l_eq ht (by decide) (by decide)).mp c140
            refine lv_bipush (v := nI 6) Z.1 Z.2.1 dX2_readOne_143 (by decide +kernel) ?_
            refine lv_goto (tgt := 149) Z.1 Z.2.1 dX2_readOne_145 (by decide) ?_
            refine lv_iconst (v := nI 0) Z.1 Z.2.1 dX2_readOne_149 (by decide +kernel) ?_
            refine zk_cv (WF := fun (_ : Unit) => [(a 1, .inr (2, [.ref (a 10), .ref (a 11), .ref (a 12), .ref kc, .ref kv, .ref kn, .ref km, .int (nI sz), .int (nI ((zg_em 6 0 (ns1_133, C1_133, X1_133)).1)), .int (nI ln), .int (nI p1_133), .int (-1)])), (a 11, .inl (g 0, 120, .inl (fun i => nI (tp i)))), (kn, .inl (g 0, 128, .inl (fun i => nI ((zg_em 6 0 (ns1_133, C1_133, X1_133)).2.1 i)))), (km, .inl (g 0, 128, .inl (fun i => nI ((zg_em 6 0 (ns1_133, C1_133, X1_133)).2.2 i))))]) (wr := [(a 11, .inl (g 0, 120, .inl (fun i => nI (tp i))))]) ⟨rfl, rfl⟩ (zk_rv (As := [.int (nI 6), .int (nI 0)]) (rest := []) (q0 := 0) (ci := 2) Z ((ct_X2_emit l D g τ a kc kv kn km sz ns1_133 ln p1_133 (-1) C1_133 X1_133 6 0 (by omega)) H.size) hK hT hA G [0, 2, 3] rfl (by decide) rfl rfl gX2_readOne_X2_emit rfl dvX2_emit ⟨by first | decide | (simp only [rm_X2_readPart, rm_X2_readOne]; omega), by first | decide | (simp only [rm_X2_readPart, rm_X2_readOne]; omega)⟩ rfl hl.1 rfl (Nat.le_of_ble_eq_true rfl) dX2_readOne_150 ⟨Nat.zero_le _, Nat.zero_le _⟩) hA G [0, 2, 3] [1] [1, 0, 2, 3] rfl rfl (by decide) (by decide) (by decide) (fun _ => rfl) (fun _ H locs w_150 G => ?_)
            exact zk_retv Z hR_ hlk hK hQ G (p1_133, (-1), (zg_em 6 0 (ns1_133, C1_133, X1_133)).1, (zg_em 6 0 (ns1_133, C1_133, X1_133)).2.1, (zg_em 6 0 (ns1_133, C1_133, X1_133)).2.2) ⟨(by simp only [zg]; rw [if_neg (by decide), if_neg hdg, if_neg hnm9, if_neg hgood, if_neg c91, hz_133]; simp only; rw [if_pos c140]; exact ⟨rfl, rfl, rfl⟩), zg_em_le _ _ hns_133⟩ rfl dX2_readOne_153
        exfalso
        have c91 : zg_c tp ln p = 40 := (zg_l_eq ht (by decide) (by decide)).mp c91
        omega
      have c74 : ¬ zg_c tp ln p = 45 := fun q9 => c74 ((zg_l_eq ht (by decide) (by decide)).mpr q9)
      have hbad : 6 ≤ op ∨ ¬ (zg_c tp ln p = 40 ∨ zg_c tp ln p = 33 ∨ zg_c tp ln p = 45) := Or.inr (by omega)
      refine lv_aload_n Z.1 Z.2.1 dX2_readOne_77 rfl (lv_at hl 1 rfl) ?_
      refine lv_aload_n Z.1 Z.2.1 dX2_readOne_78 rfl (lv_at hl 1 rfl) ?_
      refine zk_get (C := RX2) (T := TX2) (N := 12) (ci := 2) Z hK G hinX2 0 rfl rfl 10 (by decide) (List.mem_of_getElem? (i := 1) rfl) rfl (v := .int (nI p)) rfl dX2_readOne_79 ?_
      refine zk_put tyX2 tyX2_ok nmX2 (C := RX2) (T := TX2) (N := 12) (ci := 2) Z hK G hinX2 0 rfl rfl 11 (by decide) (List.mem_of_getElem? (i := 2) rfl) rfl rfl rfl rfl (Nat.le_of_ble_eq_true rfl) (ws' := [(a 1, .inr (2, [.ref (a 10), .ref (a 11), .ref (a 12), .ref kc, .ref kv, .ref kn, .ref km, .int (nI sz), .int (nI ns), .int (nI ln), .int (nI p), .int (nI p)])), (a 11, .inl (g 0, 120, .inl (fun i => nI (tp i)))), (kn, .inl (g 0, 128, .inl (fun i => nI (CN i)))), (km, .inl (g 0, 128, .inl (fun i => nI (XN i))))]) rfl dX2_readOne_82 (fun H locs G => ?_)
      refine lv_goto (tgt := 153) Z.1 Z.2.1 dX2_readOne_85 (by decide) ?_
      exact zk_retv Z hR_ hlk hK hQ G (p, nI p, ns, CN, XN) ⟨(by simp only [zg]; rw [if_neg (by decide), if_neg hdg, if_neg hnm9, if_pos hbad]; exact ⟨rfl, rfl⟩), hns⟩ rfl dX2_readOne_153
    have hnm9 : zg_nam (zg_c tp ln p) < 6 := Decidable.byContradiction (fun q9 => by rw [zg_ni_n ht, if_neg q9] at c28; exact c28 (by decide))
    have hpl := zg_c_lt (zg_nam_0 hnm9)
    refine lv_aload_n Z.1 Z.2.1 dX2_readOne_31 rfl (lv_at hl 1 rfl) ?_
    refine lv_dup Z.1 Z.2.1 dX2_readOne_32 rfl ?_
    refine zk_get (C := RX2) (T := TX2) (N := 12) (ci := 2) Z hK G hinX2 0 rfl rfl 10 (by decide) (List.mem_of_getElem? (i := 1) rfl) rfl (v := .int (nI p)) rfl dX2_readOne_33 ?_
    refine lv_iconst (v := nI 1) Z.1 Z.2.1 dX2_readOne_36 (by decide +kernel) ?_
    refine zk_iadd Z dX2_readOne_37 (z := nI (p + 1)) (nI_add _ _) ?_
    refine zk_put tyX2 tyX2_ok nmX2 (C := RX2) (T := TX2) (N := 12) (ci := 2) Z hK G hinX2 0 rfl rfl 10 (by decide) (List.mem_of_getElem? (i := 1) rfl) rfl rfl rfl rfl (Nat.le_of_ble_eq_true rfl) (ws' := [(a 1, .inr (2, [.ref (a 10), .ref (a 11), .ref (a 12), .ref kc, .ref kv, .ref kn, .ref km, .int (nI sz), .int (nI ns), .int (nI ln), .int (nI (p + 1)), .int (-1)])), (a 11, .inl (g 0, 120, .inl (fun i => nI (tp i)))), (kn, .inl (g 0, 128, .inl (fun i => nI (CN i)))), (km, .inl (g 0, 128, .inl (fun i => nI (XN i))))]) rfl dX2_readOne_38 (fun H locs G => ?_)
    refine lv_aload_n Z.1 Z.2.1 dX2_readOne_41 rfl (lv_at hl 1 rfl) ?_
    refine lv_iconst (v := nI 2) Z.1 Z.2.1 dX2_readOne_42 (by decide +kernel) ?_
    refine lv_iload_n Z.1 Z.2.1 dX2_readOne_43 rfl (lv_at hl 0 rfl) ?_
    refine zk_ci (WF := fun (_ : Unit) => [(a 1, .inr (2, [.ref (a 10), .ref (a 11), .ref (a 12), .ref kc, .ref kv, .ref kn, .ref km, .int (nI sz), .int (nI ns), .int (nI ln), .int (nI (p + 1)), .int (-1)])), (a 11, .inl (g 0, 120, .inl (fun i => nI (tp i)))), (kn, .inl (g 0, 128, .inl (fun i => nI (CN i)))), (km, .inl (g 0, 128, .inl (fun i => nI (XN i))))]) (wr := [(a 1, .inr (2, [.ref (a 10), .ref (a 11), .ref (a 12), .ref kc, .ref kv, .ref kn, .ref km, .int (nI sz), .int (nI ns), .int (nI ln), .int (nI (p + 1)), .int (-1)])), (a 11, .inl (g 0, 120, .inl (fun i => nI (tp i)))), (kn, .inl (g 0, 128, .inl (fun i => nI (CN i)))), (km, .inl (g 0, 128, .inl (fun i => nI (XN i))))]) ⟨rfl, rfl⟩ (zk_rs (As := [.int (zg_l tp ln p)]) (rest := [.int (nI 2), .ref (a 1)]) Z ((ct_X2_nameOf l D g τ (zg_l tp ln p) ) H.size) hK hT hA G [] rfl (by decide) gX2_readOne_X2_nameOf rfl dvX2_nameOf ⟨by first | decide | (simp only [rm_X2_readPart, rm_X2_readOne]; omega), by first | decide | (simp only [rm_X2_readPart, rm_X2_readOne]; omega)⟩ rfl hl.1 rfl (Nat.le_of_ble_eq_true rfl) dX2_readOne_44 ⟨Nat.zero_le _, Nat.zero_le _⟩) hA G [] [0, 1, 2, 3] [0, 1, 2, 3] rfl rfl (by decide) (by decide) (by decide) (fun _ => rfl) (fun r_44 _ H locs w_44 G => ?_)
    obtain rfl : r_44 = zg_ni (zg_l tp ln p) := w_44
    have en9 : zg_ni (zg_l tp ln p) = nI (zg_nam (zg_c tp ln p)) := by rw [zg_ni_n ht, if_pos hnm9]
    rw [en9]
    refine zk_cv (WF := fun (_ : Unit) => [(a 1, .inr (2, [.ref (a 10), .ref (a 11), .ref (a 12), .ref kc, .ref kv, .ref kn, .ref km, .int (nI sz), .int (nI ((zg_em 2 (zg_nam (zg_c tp ln p)) (ns, CN, XN)).1)), .int (nI ln), .int (nI (p + 1)), .int (-1)])), (a 11, .inl (g 0, 120, .inl (fun i => nI (tp i)))), (kn, .inl (g 0, 128, .inl (fun i => nI ((zg_em 2 (zg_nam (zg_c tp ln p)) (ns, CN, XN)).2.1 i)))), (km, .inl (g 0, 128, .inl (fun i => nI ((zg_em 2 (zg_nam (zg_c tp ln p)) (ns, CN, XN)).2.2 i))))]) (wr := [(a 11, .inl (g 0, 120, .inl (fun i => nI (tp i))))]) ⟨rfl, rfl⟩ (zk_rv (As := [.int (nI 2), .int (nI (zg_nam (zg_c tp ln p)))]) (rest := []) (q0 := 0) (ci := 2) Z ((ct_X2_emit l D g τ a kc kv kn km sz ns ln (p + 1) (-1) CN XN 2 (zg_nam (zg_c tp ln p)) (by exact hns)) H.size) hK hT hA G [0, 2, 3] rfl (by decide) rfl rfl gX2_readOne_X2_emit rfl dvX2_emit ⟨by first | decide | (simp only [rm_X2_readPart, rm_X2_readOne]; omega), by first | decide | (simp only [rm_X2_readPart, rm_X2_readOne]; omega)⟩ rfl hl.1 rfl (Nat.le_of_ble_eq_true rfl) dX2_readOne_47 ⟨Nat.zero_le _, Nat.zero_le _⟩) hA G [0, 2, 3] [1] [1, 0, 2, 3] rfl rfl (by decide) (by decide) (by decide) (fun _ => rfl) (fun _ H locs w_47 G => ?_)
    refine lv_goto (tgt := 153) Z.1 Z.2.1 dX2_readOne_50 (by decide) ?_
    exact zk_retv Z hR_ hlk hK hQ G (p + 1, -1, (zg_em 2 (zg_nam (zg_c tp ln p)) (ns, CN, XN)).1, (zg_em 2 (zg_nam (zg_c tp ln p)) (ns, CN, XN)).2.1, (zg_em 2 (zg_nam (zg_c tp ln p)) (ns, CN, XN)).2.2) ⟨(by simp only [zg]; rw [if_neg (by decide), if_neg hdg, if_pos hnm9]; exact ⟨rfl, rfl, rfl⟩), zg_em_le _ _ hns⟩ rfl dX2_readOne_153
  have c14 : zg_c tp ln p ≤ 57 := (zg_l_le57 ht).mp (Int32.not_lt.mp c14)
  refine lv_aload_n Z.1 Z.2.1 dX2_readOne_17 rfl (lv_at hl 1 rfl) ?_
  refine zk_cv (WF := fun (_ : Unit) => [(a 1, .inr (2, [.ref (a 10), .ref (a 11), .ref (a 12), .ref kc, .ref kv, .ref kn, .ref km, .int (nI sz), .int (nI ((zg_em 1 ((zg_num tp ln 4 p 0).2) (ns, CN, XN)).1)), .int (nI ln), .int (nI ((zg_num tp ln 4 p 0).1)), .int (-1)])), (a 11, .inl (g 0, 120, .inl (fun i => nI (tp i)))), (kn, .inl (g 0, 128, .inl (fun i => nI ((zg_em 1 ((zg_num tp ln 4 p 0).2) (ns, CN, XN)).2.1 i)))), (km, .inl (g 0, 128, .inl (fun i => nI ((zg_em 1 ((zg_num tp ln 4 p 0).2) (ns, CN, XN)).2.2 i))))]) (wr := []) ⟨rfl, rfl⟩ (zk_rv (As := []) (rest := []) (q0 := 0) (ci := 2) Z ((ct_X2_readNumber l D g τ a kc kv kn km sz ns ln p (-1) tp CN XN (by exact hln) (by exact hp) (by exact ht) (by exact hns)) H.size) hK hT hA G [0, 1, 2, 3] rfl (by decide) rfl rfl gX2_readOne_X2_readNumber rfl dvX2_readNumber ⟨by first | decide | (simp only [rm_X2_readPart, rm_X2_readOne]; omega), by first | decide | (simp only [rm_X2_readPart, rm_X2_readOne]; omega)⟩ rfl hl.1 rfl (Nat.le_of_ble_eq_true rfl) dX2_readOne_18 ⟨Nat.zero_le _, Nat.zero_le _⟩) hA G [0, 1, 2, 3] [] [0, 1, 2, 3] rfl rfl (by decide) (by decide) (by decide) (fun _ => rfl) (fun _ H locs w_18 G => ?_)
  refine lv_goto (tgt := 153) Z.1 Z.2.1 dX2_readOne_21 (by decide) ?_
  exact zk_retv Z hR_ hlk hK hQ G ((zg_num tp ln 4 p 0).1, -1, (zg_em 1 ((zg_num tp ln 4 p 0).2) (ns, CN, XN)).1, (zg_em 1 ((zg_num tp ln 4 p 0).2) (ns, CN, XN)).2.1, (zg_em 1 ((zg_num tp ln 4 p 0).2) (ns, CN, XN)).2.2) ⟨(by simp only [zg]; rw [if_neg (by decide), if_pos ⟨c8, c14⟩]; exact ⟨rfl, rfl, rfl⟩), zg_em_le _ _ hns⟩ rfl dX2_readOne_153

set_option maxRecDepth 100000 in
set_option maxHeartbeats 4000000 in
theorem ct_X2_readPart_s (l : Launch) (D : va_G) (g : Nat → ClassId) (τ : Nat → Nat) (d : Nat) (ihP : zg_MP l D g τ d) (ihO : zg_MO l D g τ (d + 1)) : zg_MP l D g τ (d + 1) := by
  intro a kc kv kn km sz ns ln p tp CN XN lev op hln hp ht hns hd hlv hop
  refine zk_of (Qc := fun A => va_Qv (fun (uu : Nat × Int32 × Nat × (Nat → Nat) × (Nat → Nat)) => zg_post (zg tp ln zg_em (d + 1) lev op p (ns, CN, XN)) uu.1 uu.2.1 (uu.2.2.1, uu.2.2.2.1, uu.2.2.2.2) ∧ uu.2.2.1 ≤ 128) (zk_B D g A (fun (uu : Nat × Int32 × Nat × (Nat → Nat) × (Nat → Nat)) => [(a 1, .inr (2, [.ref (a 10), .ref (a 11), .ref (a 12), .ref kc, .ref kv, .ref kn, .ref km, .int (nI sz), .int (nI uu.2.2.1), .int (nI ln), .int (nI uu.1), .int uu.2.1])), (a 11, .inl (g 0, 120, .inl (fun i => nI (tp i)))), (kn, .inl (g 0, 128, .inl (fun i => nI (uu.2.2.2.1 i)))), (km, .inl (g 0, 128, .inl (fun i => nI (uu.2.2.2.2 i))))])) A) (cc := cX2_readPart) (maxL := 5) (ret := none) (own := RX2) (by decide) rfl rfl (Nat.le_of_ble_eq_true rfl) ?_
  intro pP eE sS mM args below meth cC aA ls qQ Z hR_ hlk hnm hK hT hA hQ G hl
  have hinX2 : ∀ w ∈ u_ws RX2 TX2 12, w ∈ wsX2_readPart := (fun _ h => List.mem_cons_of_mem _ (List.mem_append_right _ h))
  refine lv_iload_n Z.1 Z.2.1 dX2_readPart_0 rfl (lv_at hl 1 rfl) ?_
  refine lv_iconst (v := nI 5) Z.1 Z.2.1 dX2_readPart_1 (by decide +kernel) ?_
  refine lv_icmp_lt (tgt := 11) Z.1 Z.2.1 dX2_readPart_2 (by decide) (fun c2 => ?_) (fun c2 => ?_)
  · have c2 : lev < 5 := zk_lt (by omega) (by omega) c2
    refine lv_aload_n Z.1 Z.2.1 dX2_readPart_11 rfl (lv_at hl 0 rfl) ?_
    refine lv_iload_n Z.1 Z.2.1 dX2_readPart_12 rfl (lv_at hl 1 rfl) ?_
    refine lv_iconst (v := nI 1) Z.1 Z.2.1 dX2_readPart_13 (by decide +kernel) ?_
    refine zk_iadd Z dX2_readPart_14 (z := nI (lev + 1)) (nI_add _ _) ?_
    refine lv_iload_n Z.1 Z.2.1 dX2_readPart_15 rfl (lv_at hl 2 rfl) ?_
    refine zk_cv (WF := fun uu => [(a 1, .inr (2, [.ref (a 10), .ref (a 11), .ref (a 12), .ref kc, .ref kv, .ref kn, .ref km, .int (nI sz), .int (nI uu.2.2.1), .int (nI ln), .int (nI uu.1), .int uu.2.1])), (a 11, .inl (g 0, 120, .inl (fun i => nI (tp i)))), (kn, .inl (g 0, 128, .inl (fun i => nI (uu.2.2.2.1 i)))), (km, .inl (g 0, 128, .inl (fun i => nI (uu.2.2.2.2 i))))]) (wr := []) ⟨rfl, rfl⟩ (zk_rv (As := [.int (nI (lev + 1)), .int (nI op)]) (rest := []) (q0 := 0) (ci := 2) Z ((ihP a kc kv kn km sz ns ln p tp CN XN (lev + 1) op (by exact hln) (by exact hp) (by exact ht) (by exact hns) (by omega) (by omega) (by exact hop)) sS.heap.size) hK hT hA G [0, 1, 2, 3] rfl (by decide) rfl rfl gX2_readPart_X2_readPart rfl dvX2_readPart ⟨by first | decide | (simp only [rm_X2_readPart, rm_X2_readOne]; omega), by first | decide | (simp only [rm_X2_readPart, rm_X2_readOne]; omega)⟩ rfl hl.1 rfl (Nat.le_of_ble_eq_true rfl) dX2_readPart_16 ⟨Nat.zero_le _, Nat.zero_le _⟩) hA G [0, 1, 2, 3] [] [0, 1, 2, 3] rfl rfl (by decide) (by decide) (by decide) (fun _ => rfl) (fun uu H locs w_16 G => ?_)
    obtain ⟨p1_16, ft1_16, ns1_16, C1_16, X1_16⟩ := uu
    have G : zk_G D aA [(a 1, .inr (2, [.ref (a 10), .ref (a 11), .ref (a 12), .ref kc, .ref kv, .ref kn, .ref km, .int (nI sz), .int (nI ns1_16), .int (nI ln), .int (nI p1_16), .int ft1_16])), (a 11, .inl (g 0, 120, .inl (fun i => nI (tp i)))), (kn, .inl (g 0, 128, .inl (fun i => nI (C1_16 i)))), (km, .inl (g 0, 128, .inl (fun i => nI (X1_16 i))))] sS H locs := G
    have zb_16 := zg_le (em := zg_em) (ln := ln) ht (d) (lev + 1) (op) (p) ((ns, CN, XN)) (by omega) (by omega) (by omega) (by omega)
    obtain ⟨w_16, hns_16⟩ := w_16
    have hns_16 : ns1_16 ≤ 128 := hns_16
    rcases hz_16 : zg tp ln zg_em d (lev + 1) op p (ns, CN, XN) with e | ⟨a9, n9, C9, X9⟩
    · obtain ⟨h1_16, h2_16⟩ := zg_pl w_16 hz_16
      obtain rfl : p1_16 = e := h1_16
      obtain rfl : ft1_16 = nI p1_16 := h2_16
      have hb_16 := zb_16
      rw [hz_16] at hb_16
      have hp_16 : p1_16 ≤ ln := hb_16.2
      refine lv_iconst (v := nI 0) Z.1 Z.2.1 dX2_readPart_19 (by decide +kernel) ?_
      refine lv_istore_n (lv' := [(3, .int (nI 0)), (0, .ref (a 1)), (1, .int (nI lev)), (2, .int (nI op))]) Z.1 Z.2.1 dX2_readPart_20 rfl hl (by decide) rfl (fun ls hl => ?_)
      refine lv_iload_n Z.1 Z.2.1 dX2_readPart_21 rfl (lv_at hl 0 rfl) ?_
      refine lv_bipush (v := nI 120) Z.1 Z.2.1 dX2_readPart_22 (by decide +kernel) ?_
      refine lv_icmp_ge (tgt := 92) Z.1 Z.2.1 dX2_readPart_24 (by decide) (fun c24 => ?_) (fun c24 => ?_)
      · have c24 : 120 ≤ 0 := zk_le (by omega) (by omega) c24
        exact zk_retv Z hR_ hlk hK hQ G (p1_16, nI p1_16, ns1_16, C1_16, X1_16) ⟨(by simp only [zg]; rw [if_pos c2, hz_16]; exact ⟨rfl, rfl⟩), hns_16⟩ rfl dX2_readPart_92
      have c24 : 0 < 120 := zk_nle (by omega) (by omega) c24
      refine lv_aload_n Z.1 Z.2.1 dX2_readPart_27 rfl (lv_at hl 1 rfl) ?_
      refine zk_get (C := RX2) (T := TX2) (N := 12) (ci := 2) Z hK G hinX2 0 rfl rfl 11 (by decide) (List.mem_of_getElem? (i := 1) rfl) rfl (v := .int (nI p1_16)) rfl dX2_readPart_28 ?_
      refine lv_if_ge (tgt := 92) Z.1 Z.2.1 dX2_readPart_31 (by decide) (fun c31 => ?_) (fun c31 => ?_)
      · have c31 : 0 ≤ p1_16 := zk_le (by omega) (by omega) c31
        exact zk_retv Z hR_ hlk hK hQ G (p1_16, nI p1_16, ns1_16, C1_16, X1_16) ⟨(by simp only [zg]; rw [if_pos c2, hz_16]; exact ⟨rfl, rfl⟩), hns_16⟩ rfl dX2_readPart_92
      exfalso
      have c31 : p1_16 < 0 := zk_nle (by omega) (by omega) c31
      omega
    · obtain ⟨h1_16, h2_16, h3_16⟩ := zg_pr w_16 hz_16
      obtain rfl : p1_16 = a9 := h1_16
      obtain rfl : ft1_16 = -1 := h2_16
      obtain ⟨rfl, rfl, rfl⟩ : ns1_16 = n9 ∧ C1_16 = C9 ∧ X1_16 = X9 := by
        have h4 := h3_16
        simp only [Prod.mk.injEq] at h4
        exact h4
      have hb_16 := zb_16
      rw [hz_16] at hb_16
      have hp_16 : p1_16 ≤ ln := hb_16.2
      have hV : zg_lp tp ln zg_em (zg tp ln zg_em d (lev + 1) op) lev (if lev = 2 then 1 else 120) p1_16 (ns1_16, C1_16, X1_16) = zg tp ln zg_em (d + 1) lev op p (ns, CN, XN) := by simp only [zg]; rw [if_pos c2, hz_16]
      refine lv_iconst (v := nI 0) Z.1 Z.2.1 dX2_readPart_19 (by decide +kernel) ?_
      refine lv_istore_n (lv' := [(3, .int (nI 0)), (0, .ref (a 1)), (1, .int (nI lev)), (2, .int (nI op))]) Z.1 Z.2.1 dX2_readPart_20 rfl hl (by decide) rfl (fun ls hl => ?_)
      have L21 : ∀ (nN : Nat) (k1 : Nat) (f : Nat) (p2 : Nat) (ns2 : Nat) (C2 : Nat → Nat) (X2 : Nat → Nat), f < nN → ((lev = 2 → k1 + f = 1) ∧ (lev ≠ 2 → k1 + f = 120)) → (p2 ≤ ln) → (ns2 ≤ 128) → (zg_lp tp ln zg_em (zg tp ln zg_em d (lev + 1) op) lev f p2 (ns2, C2, X2) = zg tp ln zg_em (d + 1) lev op p (ns, CN, XN)) → ∀ (H : Heap) (locs : List Loc) (ls : Array Slot), zk_G D aA [(a 1, .inr (2, [.ref (a 10), .ref (a 11), .ref (a 12), .ref kc, .ref kv, .ref kn, .ref km, .int (nI sz), .int (nI ns2), .int (nI ln), .int (nI p2), .int (-1)])), (a 11, .inl (g 0, 120, .inl (fun i => nI (tp i)))), (kn, .inl (g 0, 128, .inl (fun i => nI (C2 i)))), (km, .inl (g 0, 128, .inl (fun i => nI (X2 i))))] sS H locs → lv_has ls 5 [(0, .ref (a 1)), (1, .int (nI lev)), (2, .int (nI op)), (3, .int (nI k1))] → W pP l eE (rm_X2_readPart (d + 1)) sS mM args below meth cC H locs 0 0 qQ (F0 mM 21 ls []) := by
        intro nN
        induction nN with
        | zero => intros; omega
        | succ nN ih21 =>
          intro k1 f p2 ns2 C2 X2 hμ hif hp2 hn2 hs H locs ls G hl
          refine lv_iload_n Z.1 Z.2.1 dX2_readPart_21 rfl (lv_at hl 3 rfl) ?_
          refine lv_bipush (v := nI 120) Z.1 Z.2.1 dX2_readPart_22 (by decide +kernel) ?_
          refine lv_icmp_ge (tgt := 92) Z.1 Z.2.1 dX2_readPart_24 (by decide) (fun c24 => ?_) (fun c24 => ?_)
          · have c24 : 120 ≤ k1 := zk_le (by omega) (by omega) c24
            exact zk_retv Z hR_ hlk hK hQ G (p2, -1, ns2, C2, X2) ⟨(by rw [← hs, show f = 0 by omega]; exact ⟨rfl, rfl, rfl⟩), hn2⟩ rfl dX2_readPart_92
          have c24 : k1 < 120 := zk_nle (by omega) (by omega) c24
          refine lv_aload_n Z.1 Z.2.1 dX2_readPart_27 rfl (lv_at hl 0 rfl) ?_
          refine zk_get (C := RX2) (T := TX2) (N := 12) (ci := 2) Z hK G hinX2 0 rfl rfl 11 (by decide) (List.mem_of_getElem? (i := 1) rfl) rfl (v := .int (-1)) rfl dX2_readPart_28 ?_
          refine lv_if_ge (tgt := 92) Z.1 Z.2.1 dX2_readPart_31 (by decide) (fun c31 => ?_) (fun c31 => ?_)
          · exfalso
            have c31 : 0 ≤ ((-1) : Int32) := c31
            exact absurd c31 (by decide)
          have c31 : ¬ 0 ≤ ((-1) : Int32) := c31
          refine lv_aload_n Z.1 Z.2.1 dX2_readPart_34 rfl (lv_at hl 0 rfl) ?_
          refine zk_ci (WF := fun (_ : Unit) => [(a 1, .inr (2, [.ref (a 10), .ref (a 11), .ref (a 12), .ref kc, .ref kv, .ref kn, .ref km, .int (nI sz), .int (nI ns2), .int (nI ln), .int (nI p2), .int (-1)])), (a 11, .inl (g 0, 120, .inl (fun i => nI (tp i)))), (kn, .inl (g 0, 128, .inl (fun i => nI (C2 i)))), (km, .inl (g 0, 128, .inl (fun i => nI (X2 i))))]) (wr := [(kn, .inl (g 0, 128, .inl (fun i => nI (C2 i)))), (km, .inl (g 0, 128, .inl (fun i => nI (X2 i))))]) ⟨rfl, rfl⟩ (zk_rv (As := []) (rest := []) (q0 := 0) (ci := 2) Z ((ct_X2_letter l D g τ a kc kv kn km sz ns2 ln p2 (-1) tp (by exact hln) (by omega)) H.size) hK hT hA G [0, 1] rfl (by decide) rfl rfl gX2_readPart_X2_letter rfl dvX2_letter ⟨by first | decide | (simp only [rm_X2_readPart, rm_X2_readOne]; omega), by first | decide | (simp only [rm_X2_readPart, rm_X2_readOne]; omega)⟩ rfl hl.1 rfl (Nat.le_of_ble_eq_true rfl) dX2_readPart_35 ⟨Nat.zero_le _, Nat.zero_le _⟩) hA G [0, 1] [2, 3] [2, 3, 0, 1] rfl rfl (by decide) (by decide) (by decide) (fun _ => rfl) (fun r_35 _ H locs w_35 G => ?_)
          obtain rfl : r_35 = zg_l tp ln p2 := w_35
          refine zk_ci (WF := fun (_ : Unit) => [(a 1, .inr (2, [.ref (a 10), .ref (a 11), .ref (a 12), .ref kc, .ref kv, .ref kn, .ref km, .int (nI sz), .int (nI ns2), .int (nI ln), .int (nI p2), .int (-1)])), (a 11, .inl (g 0, 120, .inl (fun i => nI (tp i)))), (kn, .inl (g 0, 128, .inl (fun i => nI (C2 i)))), (km, .inl (g 0, 128, .inl (fun i => nI (X2 i))))]) (wr := [(a 1, .inr (2, [.ref (a 10), .ref (a 11), .ref (a 12), .ref kc, .ref kv, .ref kn, .ref km, .int (nI sz), .int (nI ns2), .int (nI ln), .int (nI p2), .int (-1)])), (a 11, .inl (g 0, 120, .inl (fun i => nI (tp i)))), (kn, .inl (g 0, 128, .inl (fun i => nI (C2 i)))), (km, .inl (g 0, 128, .inl (fun i => nI (X2 i))))]) ⟨rfl, rfl⟩ (zk_rs (As := [.int (zg_l tp ln p2)]) (rest := []) Z ((ct_X2_levelOf l D g τ (zg_l tp ln p2) ) H.size) hK hT hA G [] rfl (by decide) gX2_readPart_X2_levelOf rfl dvX2_levelOf ⟨by first | decide | (simp only [rm_X2_readPart, rm_X2_readOne]; omega), by first | decide | (simp only [rm_X2_readPart, rm_X2_readOne]; omega)⟩ rfl hl.1 rfl (Nat.le_of_ble_eq_true rfl) dX2_readPart_38 ⟨Nat.zero_le _, Nat.zero_le _⟩) hA G [] [0, 1, 2, 3] [0, 1, 2, 3] rfl rfl (by decide) (by decide) (by decide) (fun _ => rfl) (fun r_38 _ H locs w_38 G => ?_)
          obtain rfl : r_38 = zg_li (zg_l tp ln p2) := w_38
          refine lv_iload_n Z.1 Z.2.1 dX2_readPart_41 rfl (lv_at hl 1 rfl) ?_
          refine lv_icmp_ne (tgt := 92) Z.1 Z.2.1 dX2_readPart_42 (by decide) (fun c42 => ?_) (fun c42 => ?_)
          · have c42 : ¬ zg_lev (zg_c tp ln p2) = lev := fun q9 => c42 ((zg_lev_lt c2 ht).mpr q9)
            exact zk_retv Z hR_ hlk hK hQ G (p2, -1, ns2, C2, X2) ⟨(by rw [← hs, zg_lp_stop c42]; exact ⟨rfl, rfl, rfl⟩), hn2⟩ rfl dX2_readPart_92
          have c42 : zg_lev (zg_c tp ln p2) = lev := (zg_lev_lt c2 ht).mp c42
          have hc0 : zg_c tp ln p2 ≠ 0 := zg_lev_0 (by omega)
          have hp3 : p2 < ln := zg_c_lt hc0
          refine lv_iload_n Z.1 Z.2.1 dX2_readPart_45 rfl (lv_at hl 1 rfl) ?_
          refine lv_iconst (v := nI 2) Z.1 Z.2.1 dX2_readPart_46 (by decide +kernel) ?_
          refine lv_icmp_ne (tgt := 55) Z.1 Z.2.1 dX2_readPart_47 (by decide) (fun c47 => ?_) (fun c47 => ?_)
          · have c47 : lev ≠ 2 := zk_neq (by omega) (by omega) c47
            obtain ⟨f9, rfl⟩ : ∃ f9, f = f9 + 1 := ⟨f - 1, by omega⟩
            refine lv_aload_n Z.1 Z.2.1 dX2_readPart_55 rfl (lv_at hl 0 rfl) ?_
            refine zk_ci (WF := fun (_ : Unit) => [(a 1, .inr (2, [.ref (a 10), .ref (a 11), .ref (a 12), .ref kc, .ref kv, .ref kn, .ref km, .int (nI sz), .int (nI ns2), .int (nI ln), .int (nI p2), .int (-1)])), (a 11, .inl (g 0, 120, .inl (fun i => nI (tp i)))), (kn, .inl (g 0, 128, .inl (fun i => nI (C2 i)))), (km, .inl (g 0, 128, .inl (fun i => nI (X2 i))))]) (wr := [(kn, .inl (g 0, 128, .inl (fun i => nI (C2 i)))), (km, .inl (g 0, 128, .inl (fun i => nI (X2 i))))]) ⟨rfl, rfl⟩ (zk_rv (As := []) (rest := []) (q0 := 0) (ci := 2) Z ((ct_X2_letter l D g τ a kc kv kn km sz ns2 ln p2 (-1) tp (by exact hln) (by omega)) H.size) hK hT hA G [0, 1] rfl (by decide) rfl rfl gX2_readPart_X2_letter rfl dvX2_letter ⟨by first | decide | (simp only [rm_X2_readPart, rm_X2_readOne]; omega), by first | decide | (simp only [rm_X2_readPart, rm_X2_readOne]; omega)⟩ rfl hl.1 rfl (Nat.le_of_ble_eq_true rfl) dX2_readPart_56 ⟨Nat.zero_le _, Nat.zero_le _⟩) hA G [0, 1] [2, 3] [2, 3, 0, 1] rfl rfl (by decide) (by decide) (by decide) (fun _ => rfl) (fun r_56 _ H locs w_56 G => ?_)
            obtain rfl : r_56 = zg_l tp ln p2 := w_56
            refine lv_istore (lv' := [(4, .int (zg_l tp ln p2)), (0, .ref (a 1)), (1, .int (nI lev)), (2, .int (nI op)), (3, .int (nI k1))]) Z.1 Z.2.1 dX2_readPart_59 hl (by decide) rfl (fun ls hl => ?_)
            have el9 : zg_l tp ln p2 = nI (zg_c tp ln p2) := zg_l_n hc0
            have hl : lv_has ls 5 [(4, .int (nI (zg_c tp ln p2))), (0, .ref (a 1)), (1, .int (nI lev)), (2, .int (nI op)), (3, .int (nI k1))] := by rw [← el9]; exact hl
            refine lv_aload_n Z.1 Z.2.1 dX2_readPart_61 rfl (lv_at hl 1 rfl) ?_
            refine lv_dup Z.1 Z.2.1 dX2_readPart_62 rfl ?_
            refine zk_get (C := RX2) (T := TX2) (N := 12) (ci := 2) Z hK G hinX2 0 rfl rfl 10 (by decide) (List.mem_of_getElem? (i := 2) rfl) rfl (v := .int (nI p2)) rfl dX2_readPart_63 ?_
            refine lv_iconst (v := nI 1) Z.1 Z.2.1 dX2_readPart_66 (by decide +kernel) ?_
            refine zk_iadd Z dX2_readPart_67 (z := nI (p2 + 1)) (nI_add _ _) ?_
            refine zk_put tyX2 tyX2_ok nmX2 (C := RX2) (T := TX2) (N := 12) (ci := 2) Z hK G hinX2 0 rfl rfl 10 (by decide) (List.mem_of_getElem? (i := 2) rfl) rfl rfl rfl rfl (Nat.le_of_ble_eq_true rfl) (ws' := [(a 1, .inr (2, [.ref (a 10), .ref (a 11), .ref (a 12), .ref kc, .ref kv, .ref kn, .ref km, .int (nI sz), .int (nI ns2), .int (nI ln), .int (nI (p2 + 1)), .int (-1)])), (a 11, .inl (g 0, 120, .inl (fun i => nI (tp i)))), (kn, .inl (g 0, 128, .inl (fun i => nI (C2 i)))), (km, .inl (g 0, 128, .inl (fun i => nI (X2 i))))]) rfl dX2_readPart_68 (fun H locs G => ?_)
            refine lv_aload_n Z.1 Z.2.1 dX2_readPart_71 rfl (lv_at hl 1 rfl) ?_
            refine lv_iload_n Z.1 Z.2.1 dX2_readPart_72 rfl (lv_at hl 2 rfl) ?_
            refine lv_iconst (v := nI 1) Z.1 Z.2.1 dX2_readPart_73 (by decide +kernel) ?_
            refine zk_iadd Z dX2_readPart_74 (z := nI (lev + 1)) (nI_add _ _) ?_
            refine lv_iload_n Z.1 Z.2.1 dX2_readPart_75 rfl (lv_at hl 3 rfl) ?_
            refine zk_cv (WF := fun uu => [(a 1, .inr (2, [.ref (a 10), .ref (a 11), .ref (a 12), .ref kc, .ref kv, .ref kn, .ref km, .int (nI sz), .int (nI uu.2.2.1), .int (nI ln), .int (nI uu.1), .int uu.2.1])), (a 11, .inl (g 0, 120, .inl (fun i => nI (tp i)))), (kn, .inl (g 0, 128, .inl (fun i => nI (uu.2.2.2.1 i)))), (km, .inl (g 0, 128, .inl (fun i => nI (uu.2.2.2.2 i))))]) (wr := []) ⟨rfl, rfl⟩ (zk_rv (As := [.int (nI (lev + 1)), .int (nI op)]) (rest := []) (q0 := 0) (ci := 2) Z ((ihP a kc kv kn km sz ns2 ln (p2 + 1) tp C2 X2 (lev + 1) op (by exact hln) (by omega) (by exact ht) (by exact hn2) (by omega) (by omega) (by exact hop)) H.size) hK hT hA G [0, 1, 2, 3] rfl (by decide) rfl rfl gX2_readPart_X2_readPart rfl dvX2_readPart ⟨by first | decide | (simp only [rm_X2_readPart, rm_X2_readOne]; omega), by first | decide | (simp only [rm_X2_readPart, rm_X2_readOne]; omega)⟩ rfl hl.1 rfl (Nat.le_of_ble_eq_true rfl) dX2_readPart_76 ⟨Nat.zero_le _, Nat.zero_le _⟩) hA G [0, 1, 2, 3] [] [0, 1, 2, 3] rfl rfl (by decide) (by decide) (by decide) (fun _ => rfl) (fun uu H locs w_76 G => ?_)
            obtain ⟨p1_76, ft1_76, ns1_76, C1_76, X1_76⟩ := uu
            have G : zk_G D aA [(a 1, .inr (2, [.ref (a 10), .ref (a 11), .ref (a 12), .ref kc, .ref kv, .ref kn, .ref km, .int (nI sz), .int (nI ns1_76), .int (nI ln), .int (nI p1_76), .int ft1_76])), (a 11, .inl (g 0, 120, .inl (fun i => nI (tp i)))), (kn, .inl (g 0, 128, .inl (fun i => nI (C1_76 i)))), (km, .inl (g 0, 128, .inl (fun i => nI (X1_76 i))))] sS H locs := G
            have zb_76 := zg_le (em := zg_em) (ln := ln) ht (d) (lev + 1) (op) (p2 + 1) ((ns2, C2, X2)) (by omega) (by omega) (by omega) (by omega)
            obtain ⟨w_76, hns_76⟩ := w_76
            have hns_76 : ns1_76 ≤ 128 := hns_76
            rcases hz_76 : zg tp ln zg_em d (lev + 1) op (p2 + 1) (ns2, C2, X2) with e | ⟨a9, n9, C9, X9⟩
            · obtain ⟨h1_76, h2_76⟩ := zg_pl w_76 hz_76
              obtain rfl : p1_76 = e := h1_76
              obtain rfl : ft1_76 = nI p1_76 := h2_76
              have hb_76 := zb_76
              rw [hz_76] at hb_76
              have hp_76 : p1_76 ≤ ln := hb_76.2
              refine lv_aload_n Z.1 Z.2.1 dX2_readPart_79 rfl (lv_at hl 1 rfl) ?_
              refine lv_iload Z.1 Z.2.1 dX2_readPart_80 (lv_at hl 0 rfl) ?_
              refine lv_iconst (v := nI 0) Z.1 Z.2.1 dX2_readPart_82 (by decide +kernel) ?_
              refine zk_cv (WF := fun (_ : Unit) => [(a 1, .inr (2, [.ref (a 10), .ref (a 11), .ref (a 12), .ref kc, .ref kv, .ref kn, .ref km, .int (nI sz), .int (nI ((zg_em (zg_c tp ln p2) 0 (ns1_76, C1_76, X1_76)).1)), .int (nI ln), .int (nI p1_76), .int (nI p1_76)])), (a 11, .inl (g 0, 120, .inl (fun i => nI (tp i)))), (kn, .inl (g 0, 128, .inl (fun i => nI ((zg_em (zg_c tp ln p2) 0 (ns1_76, C1_76, X1_76)).2.1 i)))), (km, .inl (g 0, 128, .inl (fun i => nI ((zg_em (zg_c tp ln p2) 0 (ns1_76, C1_76, X1_76)).2.2 i))))]) (wr := [(a 11, .inl (g 0, 120, .inl (fun i => nI (tp i))))]) ⟨rfl, rfl⟩ (zk_rv (As := [.int (nI (zg_c tp ln p2)), .int (nI 0)]) (rest := []) (q0 := 0) (ci := 2) Z ((ct_X2_emit l D g τ a kc kv kn km sz ns1_76 ln p1_76 (nI p1_76) C1_76 X1_76 (zg_c tp ln p2) 0 (by omega)) H.size) hK hT hA G [0, 2, 3] rfl (by decide) rfl rfl gX2_readPart_X2_emit rfl dvX2_emit ⟨by first | decide | (simp only [rm_X2_readPart, rm_X2_readOne]; omega), by first | decide | (simp only [rm_X2_readPart, rm_X2_readOne]; omega)⟩ rfl hl.1 rfl (Nat.le_of_ble_eq_true rfl) dX2_readPart_83 ⟨Nat.zero_le _, Nat.zero_le _⟩) hA G [0, 2, 3] [1] [1, 0, 2, 3] rfl rfl (by decide) (by decide) (by decide) (fun _ => rfl) (fun _ H locs w_83 G => ?_)
              refine lv_iinc (v := nI (k1 + 1)) (lv' := [(3, .int (nI (k1 + 1))), (4, .int (nI (zg_c tp ln p2))), (0, .ref (a 1)), (1, .int (nI lev)), (2, .int (nI op))]) Z.1 Z.2.1 dX2_readPart_86 hl (k := 4) rfl (zk_inc k1 1) (by decide) rfl (fun ls hl => ?_)
              refine lv_goto (tgt := 21) Z.1 Z.2.1 dX2_readPart_89 (by decide) ?_
              refine lv_iload_n Z.1 Z.2.1 dX2_readPart_21 rfl (lv_at hl 0 rfl) ?_
              refine lv_bipush (v := nI 120) Z.1 Z.2.1 dX2_readPart_22 (by decide +kernel) ?_
              refine lv_icmp_ge (tgt := 92) Z.1 Z.2.1 dX2_readPart_24 (by decide) (fun c24 => ?_) (fun c24 => ?_)
              · have c24 : 120 ≤ k1 + 1 := zk_le (by omega) (by omega) c24
                exact zk_retv Z hR_ hlk hK hQ G (p1_76, nI p1_76, (zg_em (zg_c tp ln p2) 0 (ns1_76, C1_76, X1_76)).1, (zg_em (zg_c tp ln p2) 0 (ns1_76, C1_76, X1_76)).2.1, (zg_em (zg_c tp ln p2) 0 (ns1_76, C1_76, X1_76)).2.2) ⟨(by rw [← hs]; simp only [zg_lp]; rw [if_pos c42, hz_76]; exact ⟨rfl, rfl⟩), zg_em_le _ _ hns_76⟩ rfl dX2_readPart_92
              have c24 : k1 + 1 < 120 := zk_nle (by omega) (by omega) c24
              refine lv_aload_n Z.1 Z.2.1 dX2_readPart_27 rfl (lv_at hl 2 rfl) ?_
              refine zk_get (C := RX2) (T := TX2) (N := 12) (ci := 2) Z hK G hinX2 0 rfl rfl 11 (by decide) (List.mem_of_getElem? (i := 1) rfl) rfl (v := .int (nI p1_76)) rfl dX2_readPart_28 ?_
              refine lv_if_ge (tgt := 92) Z.1 Z.2.1 dX2_readPart_31 (by decide) (fun c31 => ?_) (fun c31 => ?_)
              · have c31 : 0 ≤ p1_76 := zk_le (by omega) (by omega) c31
                exact zk_retv Z hR_ hlk hK hQ G (p1_76, nI p1_76, (zg_em (zg_c tp ln p2) 0 (ns1_76, C1_76, X1_76)).1, (zg_em (zg_c tp ln p2) 0 (ns1_76, C1_76, X1_76)).2.1, (zg_em (zg_c tp ln p2) 0 (ns1_76, C1_76, X1_76)).2.2) ⟨(by rw [← hs]; simp only [zg_lp]; rw [if_pos c42, hz_76]; exact ⟨rfl, rfl⟩), zg_em_le _ _ hns_76⟩ rfl dX2_readPart_92
              exfalso
              have c31 : p1_76 < 0 := zk_nle (by omega) (by omega) c31
              omega
            · obtain ⟨h1_76, h2_76, h3_76⟩ := zg_pr w_76 hz_76
              obtain rfl : p1_76 = a9 := h1_76
              obtain rfl : ft1_76 = -1 := h2_76
              obtain ⟨rfl, rfl, rfl⟩ : ns1_76 = n9 ∧ C1_76 = C9 ∧ X1_76 = X9 := by
                have h4 := h3_76
                simp only [Prod.mk.injEq] at h4
                exact h4
              have hb_76 := zb_76
              rw [hz_76] at hb_76
              have hp_76 : p1_76 ≤ ln := hb_76.2
              refine lv_aload_n Z.1 Z.2.1 dX2_readPart_79 rfl (lv_at hl 1 rfl) ?_
              refine lv_iload Z.1 Z.2.1 dX2_readPart_80 (lv_at hl 0 rfl) ?_
              refine lv_iconst (v := nI 0) Z.1 Z.2.1 dX2_readPart_82 (by decide +kernel) ?_
              refine zk_cv (WF := fun (_ : Unit) => [(a 1, .inr (2, [.ref (a 10), .ref (a 11), .ref (a 12), .ref kc, .ref kv, .ref kn, .ref km, .int (nI sz), .int (nI ((zg_em (zg_c tp ln p2) 0 (ns1_76, C1_76, X1_76)).1)), .int (nI ln), .int (nI p1_76), .int (-1)])), (a 11, .inl (g 0, 120, .inl (fun i => nI (tp i)))), (kn, .inl (g 0, 128, .inl (fun i => nI ((zg_em (zg_c tp ln p2) 0 (ns1_76, C1_76, X1_76)).2.1 i)))), (km, .inl (g 0, 128, .inl (fun i => nI ((zg_em (zg_c tp ln p2) 0 (ns1_76, C1_76, X1_76)).2.2 i))))]) (wr := [(a 11, .inl (g 0, 120, .inl (fun i => nI (tp i))))]) ⟨rfl, rfl⟩ (zk_rv (As := [.int (nI (zg_c tp ln p2)), .int (nI 0)]) (rest := []) (q0 := 0) (ci := 2) Z ((ct_X2_emit l D g τ a kc kv kn km sz ns1_76 ln p1_76 (-1) C1_76 X1_76 (zg_c tp ln p2) 0 (by omega)) H.size) hK hT hA G [0, 2, 3] rfl (by decide) rfl rfl gX2_readPart_X2_emit rfl dvX2_emit ⟨by first | decide | (simp only [rm_X2_readPart, rm_X2_readOne]; omega), by first | decide | (simp only [rm_X2_readPart, rm_X2_readOne]; omega)⟩ rfl hl.1 rfl (Nat.le_of_ble_eq_true rfl) dX2_readPart_83 ⟨Nat.zero_le _, Nat.zero_le _⟩) hA G [0, 2, 3] [1] [1, 0, 2, 3] rfl rfl (by decide) (by decide) (by decide) (fun _ => rfl) (fun _ H locs w_83 G => ?_)
              refine lv_iinc (v := nI (k1 + 1)) (lv' := [(3, .int (nI (k1 + 1))), (4, .int (nI (zg_c tp ln p2))), (0, .ref (a 1)), (1, .int (nI lev)), (2, .int (nI op))]) Z.1 Z.2.1 dX2_readPart_86 hl (k := 4) rfl (zk_inc k1 1) (by decide) rfl (fun ls hl => ?_)
              refine lv_goto (tgt := 21) Z.1 Z.2.1 dX2_readPart_89 (by decide) ?_
              exact ih21 (k1 + 1) f9 p1_76 ((zg_em (zg_c tp ln p2) 0 (ns1_76, C1_76, X1_76)).1) ((zg_em (zg_c tp ln p2) 0 (ns1_76, C1_76, X1_76)).2.1) ((zg_em (zg_c tp ln p2) 0 (ns1_76, C1_76, X1_76)).2.2) (by omega) (by omega) (by exact hp_76) (by exact zg_em_le _ _ hns_76) (by simp only [zg_lp] at hs; rw [if_pos c42, hz_76] at hs; exact hs) _ _ _ G (lv_sub hl [2, 3, 4, 0] rfl)
          have c47 : lev = 2 := zk_eq (by omega) (by omega) c47
          refine lv_iload_n Z.1 Z.2.1 dX2_readPart_50 rfl (lv_at hl 3 rfl) ?_
          refine lv_if_le (tgt := 55) Z.1 Z.2.1 dX2_readPart_51 (by decide) (fun c51 => ?_) (fun c51 => ?_)
          · have c51 : k1 ≤ 0 := zk_le (by omega) (by omega) c51
            obtain ⟨f9, rfl⟩ : ∃ f9, f = f9 + 1 := ⟨f - 1, by omega⟩
            refine lv_aload_n Z.1 Z.2.1 dX2_readPart_55 rfl (lv_at hl 0 rfl) ?_
            refine zk_ci (WF := fun (_ : Unit) => [(a 1, .inr (2, [.ref (a 10), .ref (a 11), .ref (a 12), .ref kc, .ref kv, .ref kn, .ref km, .int (nI sz), .int (nI ns2), .int (nI ln), .int (nI p2), .int (-1)])), (a 11, .inl (g 0, 120, .inl (fun i => nI (tp i)))), (kn, .inl (g 0, 128, .inl (fun i => nI (C2 i)))), (km, .inl (g 0, 128, .inl (fun i => nI (X2 i))))]) (wr := [(kn, .inl (g 0, 128, .inl (fun i => nI (C2 i)))), (km, .inl (g 0, 128, .inl (fun i => nI (X2 i))))]) ⟨rfl, rfl⟩ (zk_rv (As := []) (rest := []) (q0 := 0) (ci := 2) Z ((ct_X2_letter l D g τ a kc kv kn km sz ns2 ln p2 (-1) tp (by exact hln) (by omega)) H.size) hK hT hA G [0, 1] rfl (by decide) rfl rfl gX2_readPart_X2_letter rfl dvX2_letter ⟨by first | decide | (simp only [rm_X2_readPart, rm_X2_readOne]; omega), by first | decide | (simp only [rm_X2_readPart, rm_X2_readOne]; omega)⟩ rfl hl.1 rfl (Nat.le_of_ble_eq_true rfl) dX2_readPart_56 ⟨Nat.zero_le _, Nat.zero_le _⟩) hA G [0, 1] [2, 3] [2, 3, 0, 1] rfl rfl (by decide) (by decide) (by decide) (fun _ => rfl) (fun r_56 _ H locs w_56 G => ?_)
            obtain rfl : r_56 = zg_l tp ln p2 := w_56
            refine lv_istore (lv' := [(4, .int (zg_l tp ln p2)), (0, .ref (a 1)), (1, .int (nI lev)), (2, .int (nI op)), (3, .int (nI k1))]) Z.1 Z.2.1 dX2_readPart_59 hl (by decide) rfl (fun ls hl => ?_)
            have el9 : zg_l tp ln p2 = nI (zg_c tp ln p2) := zg_l_n hc0
            have hl : lv_has ls 5 [(4, .int (nI (zg_c tp ln p2))), (0, .ref (a 1)), (1, .int (nI lev)), (2, .int (nI op)), (3, .int (nI k1))] := by rw [← el9]; exact hl
            refine lv_aload_n Z.1 Z.2.1 dX2_readPart_61 rfl (lv_at hl 1 rfl) ?_
            refine lv_dup Z.1 Z.2.1 dX2_readPart_62 rfl ?_
            refine zk_get (C := RX2) (T := TX2) (N := 12) (ci := 2) Z hK G hinX2 0 rfl rfl 10 (by decide) (List.mem_of_getElem? (i := 2) rfl) rfl (v := .int (nI p2)) rfl dX2_readPart_63 ?_
            refine lv_iconst (v := nI 1) Z.1 Z.2.1 dX2_readPart_66 (by decide +kernel) ?_
            refine zk_iadd Z dX2_readPart_67 (z := nI (p2 + 1)) (nI_add _ _) ?_
            refine zk_put tyX2 tyX2_ok nmX2 (C := RX2) (T := TX2) (N := 12) (ci := 2) Z hK G hinX2 0 rfl rfl 10 (by decide) (List.mem_of_getElem? (i := 2) rfl) rfl rfl rfl rfl (Nat.le_of_ble_eq_true rfl) (ws' := [(a 1, .inr (2, [.ref (a 10), .ref (a 11), .ref (a 12), .ref kc, .ref kv, .ref kn, .ref km, .int (nI sz), .int (nI ns2), .int (nI ln), .int (nI (p2 + 1)), .int (-1)])), (a 11, .inl (g 0, 120, .inl (fun i => nI (tp i)))), (kn, .inl (g 0, 128, .inl (fun i => nI (C2 i)))), (km, .inl (g 0, 128, .inl (fun i => nI (X2 i))))]) rfl dX2_readPart_68 (fun H locs G => ?_)
            refine lv_aload_n Z.1 Z.2.1 dX2_readPart_71 rfl (lv_at hl 1 rfl) ?_
            refine lv_iload_n Z.1 Z.2.1 dX2_readPart_72 rfl (lv_at hl 2 rfl) ?_
            refine lv_iconst (v := nI 1) Z.1 Z.2.1 dX2_readPart_73 (by decide +kernel) ?_
            refine zk_iadd Z dX2_readPart_74 (z := nI (lev + 1)) (nI_add _ _) ?_
            refine lv_iload_n Z.1 Z.2.1 dX2_readPart_75 rfl (lv_at hl 3 rfl) ?_
            refine zk_cv (WF := fun uu => [(a 1, .inr (2, [.ref (a 10), .ref (a 11), .ref (a 12), .ref kc, .ref kv, .ref kn, .ref km, .int (nI sz), .int (nI uu.2.2.1), .int (nI ln), .int (nI uu.1), .int uu.2.1])), (a 11, .inl (g 0, 120, .inl (fun i => nI (tp i)))), (kn, .inl (g 0, 128, .inl (fun i => nI (uu.2.2.2.1 i)))), (km, .inl (g 0, 128, .inl (fun i => nI (uu.2.2.2.2 i))))]) (wr := []) ⟨rfl, rfl⟩ (zk_rv (As := [.int (nI (lev + 1)), .int (nI op)]) (rest := []) (q0 := 0) (ci := 2) Z ((ihP a kc kv kn km sz ns2 ln (p2 + 1) tp C2 X2 (lev + 1) op (by exact hln) (by omega) (by exact ht) (by exact hn2) (by omega) (by omega) (by exact hop)) H.size) hK hT hA G [0, 1, 2, 3] rfl (by decide) rfl rfl gX2_readPart_X2_readPart rfl dvX2_readPart ⟨by first | decide | (simp only [rm_X2_readPart, rm_X2_readOne]; omega), by first | decide | (simp only [rm_X2_readPart, rm_X2_readOne]; omega)⟩ rfl hl.1 rfl (Nat.le_of_ble_eq_true rfl) dX2_readPart_76 ⟨Nat.zero_le _, Nat.zero_le _⟩) hA G [0, 1, 2, 3] [] [0, 1, 2, 3] rfl rfl (by decide) (by decide) (by decide) (fun _ => rfl) (fun uu H locs w_76 G => ?_)
            obtain ⟨p1_76, ft1_76, ns1_76, C1_76, X1_76⟩ := uu
            have G : zk_G D aA [(a 1, .inr (2, [.ref (a 10), .ref (a 11), .ref (a 12), .ref kc, .ref kv, .ref kn, .ref km, .int (nI sz), .int (nI ns1_76), .int (nI ln), .int (nI p1_76), .int ft1_76])), (a 11, .inl (g 0, 120, .inl (fun i => nI (tp i)))), (kn, .inl (g 0, 128, .inl (fun i => nI (C1_76 i)))), (km, .inl (g 0, 128, .inl (fun i => nI (X1_76 i))))] sS H locs := G
            have zb_76 := zg_le (em := zg_em) (ln := ln) ht (d) (lev + 1) (op) (p2 + 1) ((ns2, C2, X2)) (by omega) (by omega) (by omega) (by omega)
            obtain ⟨w_76, hns_76⟩ := w_76
            have hns_76 : ns1_76 ≤ 128 := hns_76
            rcases hz_76 : zg tp ln zg_em d (lev + 1) op (p2 + 1) (ns2, C2, X2) with e | ⟨a9, n9, C9, X9⟩
            · obtain ⟨h1_76, h2_76⟩ := zg_pl w_76 hz_76
              obtain rfl : p1_76 = e := h1_76
              obtain rfl : ft1_76 = nI p1_76 := h2_76
              have hb_76 := zb_76
              rw [hz_76] at hb_76
              have hp_76 : p1_76 ≤ ln := hb_76.2
              refine lv_aload_n Z.1 Z.2.1 dX2_readPart_79 rfl (lv_at hl 1 rfl) ?_
              refine lv_iload Z.1 Z.2.1 dX2_readPart_80 (lv_at hl 0 rfl) ?_
              refine lv_iconst (v := nI 0) Z.1 Z.2.1 dX2_readPart_82 (by decide +kernel) ?_
              refine zk_cv (WF := fun (_ : Unit) => [(a 1, .inr (2, [.ref (a 10), .ref (a 11), .ref (a 12), .ref kc, .ref kv, .ref kn, .ref km, .int (nI sz), .int (nI ((zg_em (zg_c tp ln p2) 0 (ns1_76, C1_76, X1_76)).1)), .int (nI ln), .int (nI p1_76), .int (nI p1_76)])), (a 11, .inl (g 0, 120, .inl (fun i => nI (tp i)))), (kn, .inl (g 0, 128, .inl (fun i => nI ((zg_em (zg_c tp ln p2) 0 (ns1_76, C1_76, X1_76)).2.1 i)))), (km, .inl (g 0, 128, .inl (fun i => nI ((zg_em (zg_c tp ln p2) 0 (ns1_76, C1_76, X1_76)).2.2 i))))]) (wr := [(a 11, .inl (g 0, 120, .inl (fun i => nI (tp i))))]) ⟨rfl, rfl⟩ (zk_rv (As := [.int (nI (zg_c tp ln p2)), .int (nI 0)]) (rest := []) (q0 := 0) (ci := 2) Z ((ct_X2_emit l D g τ a kc kv kn km sz ns1_76 ln p1_76 (nI p1_76) C1_76 X1_76 (zg_c tp ln p2) 0 (by omega)) H.size) hK hT hA G [0, 2, 3] rfl (by decide) rfl rfl gX2_readPart_X2_emit rfl dvX2_emit ⟨by first | decide | (simp only [rm_X2_readPart, rm_X2_readOne]; omega), by first | decide | (simp only [rm_X2_readPart, rm_X2_readOne]; omega)⟩ rfl hl.1 rfl (Nat.le_of_ble_eq_true rfl) dX2_readPart_83 ⟨Nat.zero_le _, Nat.zero_le _⟩) hA G [0, 2, 3] [1] [1, 0, 2, 3] rfl rfl (by decide) (by decide) (by decide) (fun _ => rfl) (fun _ H locs w_83 G => ?_)
              refine lv_iinc (v := nI (k1 + 1)) (lv' := [(3, .int (nI (k1 + 1))), (4, .int (nI (zg_c tp ln p2))), (0, .ref (a 1)), (1, .int (nI lev)), (2, .int (nI op))]) Z.1 Z.2.1 dX2_readPart_86 hl (k := 4) rfl (zk_inc k1 1) (by decide) rfl (fun ls hl => ?_)
              refine lv_goto (tgt := 21) Z.1 Z.2.1 dX2_readPart_89 (by decide) ?_
              refine lv_iload_n Z.1 Z.2.1 dX2_readPart_21 rfl (lv_at hl 0 rfl) ?_
              refine lv_bipush (v := nI 120) Z.1 Z.2.1 dX2_readPart_22 (by decide +kernel) ?_
              refine lv_icmp_ge (tgt := 92) Z.1 Z.2.1 dX2_readPart_24 (by decide) (fun c24 => ?_) (fun c24 => ?_)
              · have c24 : 120 ≤ k1 + 1 := zk_le (by omega) (by omega) c24
                exact zk_retv Z hR_ hlk hK hQ G (p1_76, nI p1_76, (zg_em (zg_c tp ln p2) 0 (ns1_76, C1_76, X1_76)).1, (zg_em (zg_c tp ln p2) 0 (ns1_76, C1_76, X1_76)).2.1, (zg_em (zg_c tp ln p2) 0 (ns1_76, C1_76, X1_76)).2.2) ⟨(by rw [← hs]; simp only [zg_lp]; rw [if_pos c42, hz_76]; exact ⟨rfl, rfl⟩), zg_em_le _ _ hns_76⟩ rfl dX2_readPart_92
              have c24 : k1 + 1 < 120 := zk_nle (by omega) (by omega) c24
              refine lv_aload_n Z.1 Z.2.1 dX2_readPart_27 rfl (lv_at hl 2 rfl) ?_
              refine zk_get (C := RX2) (T := TX2) (N := 12) (ci := 2) Z hK G hinX2 0 rfl rfl 11 (by decide) (List.mem_of_getElem? (i := 1) rfl) rfl (v := .int (nI p1_76)) rfl dX2_readPart_28 ?_
              refine lv_if_ge (tgt := 92) Z.1 Z.2.1 dX2_readPart_31 (by decide) (fun c31 => ?_) (fun c31 => ?_)
              · have c31 : 0 ≤ p1_76 := zk_le (by omega) (by omega) c31
                exact zk_retv Z hR_ hlk hK hQ G (p1_76, nI p1_76, (zg_em (zg_c tp ln p2) 0 (ns1_76, C1_76, X1_76)).1, (zg_em (zg_c tp ln p2) 0 (ns1_76, C1_76, X1_76)).2.1, (zg_em (zg_c tp ln p2) 0 (ns1_76, C1_76, X1_76)).2.2) ⟨(by rw [← hs]; simp only [zg_lp]; rw [if_pos c42, hz_76]; exact ⟨rfl, rfl⟩), zg_em_le _ _ hns_76⟩ rfl dX2_readPart_92
              exfalso
              have c31 : p1_76 < 0 := zk_nle (by omega) (by omega) c31
              omega
            · obtain ⟨h1_76, h2_76, h3_76⟩ := zg_pr w_76 hz_76
              obtain rfl : p1_76 = a9 := h1_76
              obtain rfl : ft1_76 = -1 := h2_76
              obtain ⟨rfl, rfl, rfl⟩ : ns1_76 = n9 ∧ C1_76 = C9 ∧ X1_76 = X9 := by
                have h4 := h3_76
                simp only [Prod.mk.injEq] at h4
                exact h4
              have hb_76 := zb_76
              rw [hz_76] at hb_76
              have hp_76 : p1_76 ≤ ln := hb_76.2
              refine lv_aload_n Z.1 Z.2.1 dX2_readPart_79 rfl (lv_at hl 1 rfl) ?_
              refine lv_iload Z.1 Z.2.1 dX2_readPart_80 (lv_at hl 0 rfl) ?_
              refine lv_iconst (v := nI 0) Z.1 Z.2.1 dX2_readPart_82 (by decide +kernel) ?_
              refine zk_cv (WF := fun (_ : Unit) => [(a 1, .inr (2, [.ref (a 10), .ref (a 11), .ref (a 12), .ref kc, .ref kv, .ref kn, .ref km, .int (nI sz), .int (nI ((zg_em (zg_c tp ln p2) 0 (ns1_76, C1_76, X1_76)).1)), .int (nI ln), .int (nI p1_76), .int (-1)])), (a 11, .inl (g 0, 120, .inl (fun i => nI (tp i)))), (kn, .inl (g 0, 128, .inl (fun i => nI ((zg_em (zg_c tp ln p2) 0 (ns1_76, C1_76, X1_76)).2.1 i)))), (km, .inl (g 0, 128, .inl (fun i => nI ((zg_em (zg_c tp ln p2) 0 (ns1_76, C1_76, X1_76)).2.2 i))))]) (wr := [(a 11, .inl (g 0, 120, .inl (fun i => nI (tp i))))]) ⟨rfl, rfl⟩ (zk_rv (As := [.int (nI (zg_c tp ln p2)), .int (nI 0)]) (rest := []) (q0 := 0) (ci := 2) Z ((ct_X2_emit l D g τ a kc kv kn km sz ns1_76 ln p1_76 (-1) C1_76 X1_76 (zg_c tp ln p2) 0 (by omega)) H.size) hK hT hA G [0, 2, 3] rfl (by decide) rfl rfl gX2_readPart_X2_emit rfl dvX2_emit ⟨by first | decide | (simp only [rm_X2_readPart, rm_X2_readOne]; omega), by first | decide | (simp only [rm_X2_readPart, rm_X2_readOne]; omega)⟩ rfl hl.1 rfl (Nat.le_of_ble_eq_true rfl) dX2_readPart_83 ⟨Nat.zero_le _, Nat.zero_le _⟩) hA G [0, 2, 3] [1] [1, 0, 2, 3] rfl rfl (by decide) (by decide) (by decide) (fun _ => rfl) (fun _ H locs w_83 G => ?_)
              refine lv_iinc (v := nI (k1 + 1)) (lv' := [(3, .int (nI (k1 + 1))), (4, .int (nI (zg_c tp ln p2))), (0, .ref (a 1)), (1, .int (nI lev)), (2, .int (nI op))]) Z.1 Z.2.1 dX2_readPart_86 hl (k := 4) rfl (zk_inc k1 1) (by decide) rfl (fun ls hl => ?_)
              refine lv_goto (tgt := 21) Z.1 Z.2.1 dX2_readPart_89 (by decide) ?_
              exact ih21 (k1 + 1) f9 p1_76 ((zg_em (zg_c tp ln p2) 0 (ns1_76, C1_76, X1_76)).1) ((zg_em (zg_c tp ln p2) 0 (ns1_76, C1_76, X1_76)).2.1) ((zg_em (zg_c tp ln p2) 0 (ns1_76, C1_76, X1_76)).2.2) (by omega) (by omega) (by exact hp_76) (by exact zg_em_le _ _ hns_76) (by simp only [zg_lp] at hs; rw [if_pos c42, hz_76] at hs; exact hs) _ _ _ G (lv_sub hl [2, 3, 4, 0] rfl)
          have c51 : 0 < k1 := zk_nle (by omega) (by omega) c51
          exact zk_retv Z hR_ hlk hK hQ G (p2, -1, ns2, C2, X2) ⟨(by rw [← hs, show f = 0 by omega]; exact ⟨rfl, rfl, rfl⟩), hn2⟩ rfl dX2_readPart_54
      exact L21 _ 0 (if lev = 2 then 1 else 120) p1_16 ns1_16 C1_16 X1_16 (Nat.lt_succ_self _) (by exact ⟨fun q9 => by rw [if_pos q9], fun q9 => by rw [if_neg q9]⟩) (by exact hp_16) (by exact hns_16) (by exact hV) _ _ _ G (lv_sub hl [1, 2, 3, 0] rfl)
  have c2 : 5 ≤ lev := zk_nlt (by omega) (by omega) c2
  obtain rfl : lev = 5 := by omega
  refine lv_aload_n Z.1 Z.2.1 dX2_readPart_5 rfl (lv_at hl 0 rfl) ?_
  refine lv_iload_n Z.1 Z.2.1 dX2_readPart_6 rfl (lv_at hl 2 rfl) ?_
  refine zk_cv (WF := fun uu => [(a 1, .inr (2, [.ref (a 10), .ref (a 11), .ref (a 12), .ref kc, .ref kv, .ref kn, .ref km, .int (nI sz), .int (nI uu.2.2.1), .int (nI ln), .int (nI uu.1), .int uu.2.1])), (a 11, .inl (g 0, 120, .inl (fun i => nI (tp i)))), (kn, .inl (g 0, 128, .inl (fun i => nI (uu.2.2.2.1 i)))), (km, .inl (g 0, 128, .inl (fun i => nI (uu.2.2.2.2 i))))]) (wr := []) ⟨rfl, rfl⟩ (zk_rv (As := [.int (nI op)]) (rest := []) (q0 := 0) (ci := 2) Z ((ihO a kc kv kn km sz ns ln p tp CN XN op (by exact hln) (by exact hp) (by exact ht) (by exact hns) (by omega) (by exact hop)) sS.heap.size) hK hT hA G [0, 1, 2, 3] rfl (by decide) rfl rfl gX2_readPart_X2_readOne rfl dvX2_readOne ⟨by first | decide | (simp only [rm_X2_readPart, rm_X2_readOne]; omega), by first | decide | (simp only [rm_X2_readPart, rm_X2_readOne]; omega)⟩ rfl hl.1 rfl (Nat.le_of_ble_eq_true rfl) dX2_readPart_7 ⟨Nat.zero_le _, Nat.zero_le _⟩) hA G [0, 1, 2, 3] [] [0, 1, 2, 3] rfl rfl (by decide) (by decide) (by decide) (fun _ => rfl) (fun uu H locs w_7 G => ?_)
  obtain ⟨p1_7, ft1_7, ns1_7, C1_7, X1_7⟩ := uu
  have G : zk_G D aA [(a 1, .inr (2, [.ref (a 10), .ref (a 11), .ref (a 12), .ref kc, .ref kv, .ref kn, .ref km, .int (nI sz), .int (nI ns1_7), .int (nI ln), .int (nI p1_7), .int ft1_7])), (a 11, .inl (g 0, 120, .inl (fun i => nI (tp i)))), (kn, .inl (g 0, 128, .inl (fun i => nI (C1_7 i)))), (km, .inl (g 0, 128, .inl (fun i => nI (X1_7 i))))] sS H locs := G
  exact zk_retv Z hR_ hlk hK hQ G (p1_7, ft1_7, ns1_7, C1_7, X1_7) w_7 rfl dX2_readPart_10

theorem zg_all (l : Launch) (D : va_G) (g : Nat → ClassId) (τ : Nat → Nat) : ∀ d, zg_MP l D g τ d ∧ zg_MO l D g τ d
  | 0 => ⟨by unfold zg_MP; intros; omega, by unfold zg_MO; intros; omega⟩
  | d + 1 => ⟨ct_X2_readPart_s l D g τ d (zg_all l D g τ d).1 (ct_X2_readOne_s l D g τ d (zg_all l D g τ d).1 (zg_all l D g τ d).2), ct_X2_readOne_s l D g τ d (zg_all l D g τ d).1 (zg_all l D g τ d).2⟩

abbrev rm_X2_readLine : Room := { frames := 90, cells := 0, slots := 0, locals := 2674 }
theorem dvX2_readLine : zk_dv yX2_readLine RX2 0 := by decide +kernel
set_option maxRecDepth 100000 in
set_option maxHeartbeats 1500000 in
theorem ct_X2_readLine (l : Launch) (D : va_G) (g : Nat → ClassId) (τ : Nat → Nat) (a : Nat → Nat) (kc : Nat) (kv : Nat) (kn : Nat) (km : Nat) (sz : Nat) (ns : Nat) (ln : Nat) (p : Nat) (tp : Nat → Nat) (CN : Nat → Nat) (XN : Nat → Nat) (hln : ln ≤ 120) (hp : p ≤ ln) (ht : ∀ i, tp i < 256) (hns : ns ≤ 128) : zk_MV l D g τ yX2_readLine wsX2_readLine rm_X2_readLine [.ref (a 1)] [(a 1, .inr (2, [.ref (a 10), .ref (a 11), .ref (a 12), .ref kc, .ref kv, .ref kn, .ref km, .int (nI sz), .int (nI ns), .int (nI ln), .int (nI p), .int (-1)])), (a 11, .inl (g 0, 120, .inl (fun i => nI (tp i)))), (kn, .inl (g 0, 128, .inl (fun i => nI (CN i)))), (km, .inl (g 0, 128, .inl (fun i => nI (XN i))))] (fun (uu : Nat × Int32 × Nat × (Nat → Nat) × (Nat → Nat)) => zg_post (zg_line tp ln p (ns, CN, XN)) uu.1 uu.2.1 (uu.2.2.1, uu.2.2.2.1, uu.2.2.2.2) ∧ uu.2.2.1 ≤ 128) (fun (uu : Nat × Int32 × Nat × (Nat → Nat) × (Nat → Nat)) => [(a 1, .inr (2, [.ref (a 10), .ref (a 11), .ref (a 12), .ref kc, .ref kv, .ref kn, .ref km, .int (nI sz), .int (nI uu.2.2.1), .int (nI ln), .int (nI uu.1), .int uu.2.1])), (a 11, .inl (g 0, 120, .inl (fun i => nI (tp i)))), (kn, .inl (g 0, 128, .inl (fun i => nI (uu.2.2.2.1 i)))), (km, .inl (g 0, 128, .inl (fun i => nI (uu.2.2.2.2 i))))]) := by
  refine zk_of (Qc := fun A => va_Qv (fun (uu : Nat × Int32 × Nat × (Nat → Nat) × (Nat → Nat)) => zg_post (zg_line tp ln p (ns, CN, XN)) uu.1 uu.2.1 (uu.2.2.1, uu.2.2.2.1, uu.2.2.2.2) ∧ uu.2.2.1 ≤ 128) (zk_B D g A (fun (uu : Nat × Int32 × Nat × (Nat → Nat) × (Nat → Nat)) => [(a 1, .inr (2, [.ref (a 10), .ref (a 11), .ref (a 12), .ref kc, .ref kv, .ref kn, .ref km, .int (nI sz), .int (nI uu.2.2.1), .int (nI ln), .int (nI uu.1), .int uu.2.1])), (a 11, .inl (g 0, 120, .inl (fun i => nI (tp i)))), (kn, .inl (g 0, 128, .inl (fun i => nI (uu.2.2.2.1 i)))), (km, .inl (g 0, 128, .inl (fun i => nI (uu.2.2.2.2 i))))])) A) (cc := cX2_readLine) (maxL := 2) (ret := none) (own := RX2) (by decide) rfl rfl (Nat.le_of_ble_eq_true rfl) ?_
  intro pP eE sS mM args below meth cC aA ls qQ Z hR_ hlk hnm hK hT hA hQ G hl
  have hinX2 : ∀ w ∈ u_ws RX2 TX2 12, w ∈ wsX2_readLine := (fun _ h => List.mem_cons_of_mem _ (List.mem_append_right _ h))
  refine lv_aload_n Z.1 Z.2.1 dX2_readLine_0 rfl (lv_at hl 0 rfl) ?_
  refine lv_iconst (v := nI 0) Z.1 Z.2.1 dX2_readLine_1 (by decide +kernel) ?_
  refine lv_iconst (v := nI 0) Z.1 Z.2.1 dX2_readLine_2 (by decide +kernel) ?_
  refine zk_cv (WF := fun uu => [(a 1, .inr (2, [.ref (a 10), .ref (a 11), .ref (a 12), .ref kc, .ref kv, .ref kn, .ref km, .int (nI sz), .int (nI uu.2.2.1), .int (nI ln), .int (nI uu.1), .int uu.2.1])), (a 11, .inl (g 0, 120, .inl (fun i => nI (tp i)))), (kn, .inl (g 0, 128, .inl (fun i => nI (uu.2.2.2.1 i)))), (km, .inl (g 0, 128, .inl (fun i => nI (uu.2.2.2.2 i))))]) (wr := []) ⟨rfl, rfl⟩ (zk_rv (As := [.int (nI 0), .int (nI 0)]) (rest := []) (q0 := 0) (ci := 2) Z (((zg_all l D g τ 42).1 a kc kv kn km sz ns ln p tp CN XN 0 0 (by exact hln) (by exact hp) (by exact ht) (by exact hns) (by decide) (by decide) (by decide)) sS.heap.size) hK hT hA G [0, 1, 2, 3] rfl (by decide) rfl rfl gX2_readLine_X2_readPart rfl dvX2_readPart ⟨by decide, by decide⟩ rfl hl.1 rfl (Nat.le_of_ble_eq_true rfl) dX2_readLine_3 ⟨Nat.zero_le _, Nat.zero_le _⟩) hA G [0, 1, 2, 3] [] [0, 1, 2, 3] rfl rfl (by decide) (by decide) (by decide) (fun _ => rfl) (fun uu H locs w_3 G => ?_)
  obtain ⟨p1_3, ft1_3, ns1_3, C1_3, X1_3⟩ := uu
  have G : zk_G D aA [(a 1, .inr (2, [.ref (a 10), .ref (a 11), .ref (a 12), .ref kc, .ref kv, .ref kn, .ref km, .int (nI sz), .int (nI ns1_3), .int (nI ln), .int (nI p1_3), .int ft1_3])), (a 11, .inl (g 0, 120, .inl (fun i => nI (tp i)))), (kn, .inl (g 0, 128, .inl (fun i => nI (C1_3 i)))), (km, .inl (g 0, 128, .inl (fun i => nI (X1_3 i))))] sS H locs := G
  have zb_3 := zg_le (em := zg_em) (ln := ln) ht 42 0 0 (p) ((ns, CN, XN)) (by omega) (by decide) (by decide) (by decide)
  obtain ⟨w_3, hns_3⟩ := w_3
  have hns_3 : ns1_3 ≤ 128 := hns_3
  rcases hz_3 : zg tp ln zg_em 42 0 0 p (ns, CN, XN) with e | ⟨a9, n9, C9, X9⟩
  · obtain ⟨h1_3, h2_3⟩ := zg_pl w_3 hz_3
    obtain rfl : p1_3 = e := h1_3
    obtain rfl : ft1_3 = nI p1_3 := h2_3
    have hb_3 := zb_3
    rw [hz_3] at hb_3
    have hp_3 : p1_3 ≤ ln := hb_3.2
    refine lv_iconst (v := (-1)) Z.1 Z.2.1 dX2_readLine_6 (by decide +kernel) ?_
    refine lv_istore_n (lv' := [(1, .int (-1)), (0, .ref (a 1))]) Z.1 Z.2.1 dX2_readLine_7 rfl hl (by decide) rfl (fun ls hl => ?_)
    refine lv_aload_n Z.1 Z.2.1 dX2_readLine_8 rfl (lv_at hl 1 rfl) ?_
    refine zk_get (C := RX2) (T := TX2) (N := 12) (ci := 2) Z hK G hinX2 0 rfl rfl 11 (by decide) (List.mem_of_getElem? (i := 1) rfl) rfl (v := .int (nI p1_3)) rfl dX2_readLine_9 ?_
    refine lv_if_ge (tgt := 51) Z.1 Z.2.1 dX2_readLine_12 (by decide) (fun c12 => ?_) (fun c12 => ?_)
    · have c12 : 0 ≤ p1_3 := zk_le (by omega) (by omega) c12
      refine lv_aload_n Z.1 Z.2.1 dX2_readLine_51 rfl (lv_at hl 1 rfl) ?_
      refine lv_iconst (v := nI 4) Z.1 Z.2.1 dX2_readLine_52 (by decide +kernel) ?_
      refine lv_iconst (v := nI 0) Z.1 Z.2.1 dX2_readLine_53 (by decide +kernel) ?_
      refine zk_cv (WF := fun (_ : Unit) => [(a 1, .inr (2, [.ref (a 10), .ref (a 11), .ref (a 12), .ref kc, .ref kv, .ref kn, .ref km, .int (nI sz), .int (nI ((zg_em 4 0 (ns1_3, C1_3, X1_3)).1)), .int (nI ln), .int (nI p1_3), .int (nI p1_3)])), (a 11, .inl (g 0, 120, .inl (fun i => nI (tp i)))), (kn, .inl (g 0, 128, .inl (fun i => nI ((zg_em 4 0 (ns1_3, C1_3, X1_3)).2.1 i)))), (km, .inl (g 0, 128, .inl (fun i => nI ((zg_em 4 0 (ns1_3, C1_3, X1_3)).2.2 i))))]) (wr := [(a 11, .inl (g 0, 120, .inl (fun i => nI (tp i))))]) ⟨rfl, rfl⟩ (zk_rv (As := [.int (nI 4), .int (nI 0)]) (rest := []) (q0 := 0) (ci := 2) Z ((ct_X2_emit l D g τ a kc kv kn km sz ns1_3 ln p1_3 (nI p1_3) C1_3 X1_3 4 0 (by omega)) H.size) hK hT hA G [0, 2, 3] rfl (by decide) rfl rfl gX2_readLine_X2_emit rfl dvX2_emit ⟨by decide, by decide⟩ rfl hl.1 rfl (Nat.le_of_ble_eq_true rfl) dX2_readLine_54 ⟨Nat.zero_le _, Nat.zero_le _⟩) hA G [0, 2, 3] [1] [1, 0, 2, 3] rfl rfl (by decide) (by decide) (by decide) (fun _ => rfl) (fun _ H locs w_54 G => ?_)
      refine lv_iload_n Z.1 Z.2.1 dX2_readLine_57 rfl (lv_at hl 0 rfl) ?_
      refine lv_if_lt (tgt := 78) Z.1 Z.2.1 dX2_readLine_58 (by decide) (fun c58 => ?_) (fun c58 => ?_)
      · have c58 : ((-1) : Int32) < 0 := c58
        exact zk_retv Z hR_ hlk hK hQ G (p1_3, nI p1_3, (zg_em 4 0 (ns1_3, C1_3, X1_3)).1, (zg_em 4 0 (ns1_3, C1_3, X1_3)).2.1, (zg_em 4 0 (ns1_3, C1_3, X1_3)).2.2) ⟨(by unfold zg_line; rw [hz_3]; exact ⟨rfl, rfl⟩), zg_em_le _ _ hns_3⟩ rfl dX2_readLine_78
      exfalso
      have c58 : ¬ ((-1) : Int32) < 0 := c58
      exact absurd (by decide : (-1 : Int32) < 0) c58
    exfalso
    have c12 : p1_3 < 0 := zk_nle (by omega) (by omega) c12
    omega
  · obtain ⟨h1_3, h2_3, h3_3⟩ := zg_pr w_3 hz_3
    obtain rfl : p1_3 = a9 := h1_3
    obtain rfl : ft1_3 = -1 := h2_3
    obtain ⟨rfl, rfl, rfl⟩ : ns1_3 = n9 ∧ C1_3 = C9 ∧ X1_3 = X9 := by
      have h4 := h3_3
      simp only [Prod.mk.injEq] at h4
      exact h4
    have hb_3 := zb_3
    rw [hz_3] at hb_3
    have hp_3 : p1_3 ≤ ln := hb_3.2
    refine lv_iconst (v := (-1)) Z.1 Z.2.1 dX2_readLine_6 (by decide +kernel) ?_
    refine lv_istore_n (lv' := [(1, .int (-1)), (0, .ref (a 1))]) Z.1 Z.2.1 dX2_readLine_7 rfl hl (by decide) rfl (fun ls hl => ?_)
    refine lv_aload_n Z.1 Z.2.1 dX2_readLine_8 rfl (lv_at hl 1 rfl) ?_
    refine zk_get (C := RX2) (T := TX2) (N := 12) (ci := 2) Z hK G hinX2 0 rfl rfl 11 (by decide) (List.mem_of_getElem? (i := 1) rfl) rfl (v := .int (-1)) rfl dX2_readLine_9 ?_
    refine lv_if_ge (tgt := 51) Z.1 Z.2.1 dX2_readLine_12 (by decide) (fun c12 => ?_) (fun c12 => ?_)
    · exfalso
      have c12 : 0 ≤ ((-1) : Int32) := c12
      exact absurd c12 (by decide)
    have c12 : ¬ 0 ≤ ((-1) : Int32) := c12
    refine lv_aload_n Z.1 Z.2.1 dX2_readLine_15 rfl (lv_at hl 1 rfl) ?_
    refine zk_ci (WF := fun (_ : Unit) => [(a 1, .inr (2, [.ref (a 10), .ref (a 11), .ref (a 12), .ref kc, .ref kv, .ref kn, .ref km, .int (nI sz), .int (nI ns1_3), .int (nI ln), .int (nI p1_3), .int (-1)])), (a 11, .inl (g 0, 120, .inl (fun i => nI (tp i)))), (kn, .inl (g 0, 128, .inl (fun i => nI (C1_3 i)))), (km, .inl (g 0, 128, .inl (fun i => nI (X1_3 i))))]) (wr := [(kn, .inl (g 0, 128, .inl (fun i => nI (C1_3 i)))), (km, .inl (g 0, 128, .inl (fun i => nI (X1_3 i))))]) ⟨rfl, rfl⟩ (zk_rv (As := []) (rest := []) (q0 := 0) (ci := 2) Z ((ct_X2_letter l D g τ a kc kv kn km sz ns1_3 ln p1_3 (-1) tp (by exact hln) (by omega)) H.size) hK hT hA G [0, 1] rfl (by decide) rfl rfl gX2_readLine_X2_letter rfl dvX2_letter ⟨by decide, by decide⟩ rfl hl.1 rfl (Nat.le_of_ble_eq_true rfl) dX2_readLine_16 ⟨Nat.zero_le _, Nat.zero_le _⟩) hA G [0, 1] [2, 3] [2, 3, 0, 1] rfl rfl (by decide) (by decide) (by decide) (fun _ => rfl) (fun r_16 _ H locs w_16 G => ?_)
    obtain rfl : r_16 = zg_l tp ln p1_3 := w_16
    refine lv_bipush (v := nI 63) Z.1 Z.2.1 dX2_readLine_19 (by decide +kernel) ?_
    refine lv_icmp_ne (tgt := 51) Z.1 Z.2.1 dX2_readLine_21 (by decide) (fun c21 => ?_) (fun c21 => ?_)
    · have c21 : ¬ zg_c tp ln p1_3 = 63 := fun q9 => c21 ((zg_l_eq ht (by decide) (by decide)).mpr q9)
      refine lv_aload_n Z.1 Z.2.1 dX2_readLine_51 rfl (lv_at hl 1 rfl) ?_
      refine lv_iconst (v := nI 4) Z.1 Z.2.1 dX2_readLine_52 (by decide +kernel) ?_
      refine lv_iconst (v := nI 0) Z.1 Z.2.1 dX2_readLine_53 (by decide +kernel) ?_
      refine zk_cv (WF := fun (_ : Unit) => [(a 1, .inr (2, [.ref (a 10), .ref (a 11), .ref (a 12), .ref kc, .ref kv, .ref kn, .ref km, .int (nI sz), .int (nI ((zg_em 4 0 (ns1_3, C1_3, X1_3)).1)), .int (nI ln), .int (nI p1_3), .int (-1)])), (a 11, .inl (g 0, 120, .inl (fun i => nI (tp i)))), (kn, .inl (g 0, 128, .inl (fun i => nI ((zg_em 4 0 (ns1_3, C1_3, X1_3)).2.1 i)))), (km, .inl (g 0, 128, .inl (fun i => nI ((zg_em 4 0 (ns1_3, C1_3, X1_3)).2.2 i))))]) (wr := [(a 11, .inl (g 0, 120, .inl (fun i => nI (tp i))))]) ⟨rfl, rfl⟩ (zk_rv (As := [.int (nI 4), .int (nI 0)]) (rest := []) (q0 := 0) (ci := 2) Z ((ct_X2_emit l D g τ a kc kv kn km sz ns1_3 ln p1_3 (-1) C1_3 X1_3 4 0 (by omega)) H.size) hK hT hA G [0, 2, 3] rfl (by decide) rfl rfl gX2_readLine_X2_emit rfl dvX2_emit ⟨by decide, by decide⟩ rfl hl.1 rfl (Nat.le_of_ble_eq_true rfl) dX2_readLine_54 ⟨Nat.zero_le _, Nat.zero_le _⟩) hA G [0, 2, 3] [1] [1, 0, 2, 3] rfl rfl (by decide) (by decide) (by decide) (fun _ => rfl) (fun _ H locs w_54 G => ?_)
      refine lv_iload_n Z.1 Z.2.1 dX2_readLine_57 rfl (lv_at hl 0 rfl) ?_
      refine lv_if_lt (tgt := 78) Z.1 Z.2.1 dX2_readLine_58 (by decide) (fun c58 => ?_) (fun c58 => ?_)
      · have c58 : ((-1) : Int32) < 0 := c58
        exact zk_retv Z hR_ hlk hK hQ G (p1_3, (-1), (zg_em 4 0 (ns1_3, C1_3, X1_3)).1, (zg_em 4 0 (ns1_3, C1_3, X1_3)).2.1, (zg_em 4 0 (ns1_3, C1_3, X1_3)).2.2) ⟨(by unfold zg_line; rw [hz_3]; simp only; rw [if_neg c21]; exact ⟨rfl, rfl, rfl⟩), zg_em_le _ _ hns_3⟩ rfl dX2_readLine_78
      exfalso
      have c58 : ¬ ((-1) : Int32) < 0 := c58
      exact absurd (by decide : (-1 : Int32) < 0) c58
    have c21 : zg_c tp ln p1_3 = 63 := (zg_l_eq ht (by decide) (by decide)).mp c21
    have hp4 : p1_3 < ln := zg_c_lt (tp := tp) (by omega)
    refine lv_aload_n Z.1 Z.2.1 dX2_readLine_24 rfl (lv_at hl 1 rfl) ?_
    refine lv_dup Z.1 Z.2.1 dX2_readLine_25 rfl ?_
    refine zk_get (C := RX2) (T := TX2) (N := 12) (ci := 2) Z hK G hinX2 0 rfl rfl 10 (by decide) (List.mem_of_getElem? (i := 2) rfl) rfl (v := .int (nI p1_3)) rfl dX2_readLine_26 ?_
    refine lv_iconst (v := nI 1) Z.1 Z.2.1 dX2_readLine_29 (by decide +kernel) ?_
    refine zk_iadd Z dX2_readLine_30 (z := nI (p1_3 + 1)) (nI_add _ _) ?_
    refine zk_put tyX2 tyX2_ok nmX2 (C := RX2) (T := TX2) (N := 12) (ci := 2) Z hK G hinX2 0 rfl rfl 10 (by decide) (List.mem_of_getElem? (i := 2) rfl) rfl rfl rfl rfl (Nat.le_of_ble_eq_true rfl) (ws' := [(a 1, .inr (2, [.ref (a 10), .ref (a 11), .ref (a 12), .ref kc, .ref kv, .ref kn, .ref km, .int (nI sz), .int (nI ns1_3), .int (nI ln), .int (nI (p1_3 + 1)), .int (-1)])), (a 11, .inl (g 0, 120, .inl (fun i => nI (tp i)))), (kn, .inl (g 0, 128, .inl (fun i => nI (C1_3 i)))), (km, .inl (g 0, 128, .inl (fun i => nI (X1_3 i))))]) rfl dX2_readLine_31 (fun H locs G => ?_)
    refine lv_aload_n Z.1 Z.2.1 dX2_readLine_34 rfl (lv_at hl 1 rfl) ?_
    refine zk_get (C := RX2) (T := TX2) (N := 12) (ci := 2) Z hK G hinX2 0 rfl rfl 8 (by decide) (List.mem_of_getElem? (i := 3) rfl) rfl (v := .int (nI ns1_3)) rfl dX2_readLine_35 ?_
    refine lv_istore_n (lv' := [(1, .int (nI ns1_3)), (0, .ref (a 1))]) Z.1 Z.2.1 dX2_readLine_38 rfl hl (by decide) rfl (fun ls hl => ?_)
    refine lv_aload_n Z.1 Z.2.1 dX2_readLine_39 rfl (lv_at hl 1 rfl) ?_
    refine lv_iconst (v := nI 3) Z.1 Z.2.1 dX2_readLine_40 (by decide +kernel) ?_
    refine lv_iconst (v := nI 0) Z.1 Z.2.1 dX2_readLine_41 (by decide +kernel) ?_
    refine zk_cv (WF := fun (_ : Unit) => [(a 1, .inr (2, [.ref (a 10), .ref (a 11), .ref (a 12), .ref kc, .ref kv, .ref kn, .ref km, .int (nI sz), .int (nI ((zg_em 3 0 (ns1_3, C1_3, X1_3)).1)), .int (nI ln), .int (nI (p1_3 + 1)), .int (-1)])), (a 11, .inl (g 0, 120, .inl (fun i => nI (tp i)))), (kn, .inl (g 0, 128, .inl (fun i => nI ((zg_em 3 0 (ns1_3, C1_3, X1_3)).2.1 i)))), (km, .inl (g 0, 128, .inl (fun i => nI ((zg_em 3 0 (ns1_3, C1_3, X1_3)).2.2 i))))]) (wr := [(a 11, .inl (g 0, 120, .inl (fun i => nI (tp i))))]) ⟨rfl, rfl⟩ (zk_rv (As := [.int (nI 3), .int (nI 0)]) (rest := []) (q0 := 0) (ci := 2) Z ((ct_X2_emit l D g τ a kc kv kn km sz ns1_3 ln (p1_3 + 1) (-1) C1_3 X1_3 3 0 (by omega)) H.size) hK hT hA G [0, 2, 3] rfl (by decide) rfl rfl gX2_readLine_X2_emit rfl dvX2_emit ⟨by decide, by decide⟩ rfl hl.1 rfl (Nat.le_of_ble_eq_true rfl) dX2_readLine_42 ⟨Nat.zero_le _, Nat.zero_le _⟩) hA G [0, 2, 3] [1] [1, 0, 2, 3] rfl rfl (by decide) (by decide) (by decide) (fun _ => rfl) (fun _ H locs w_42 G => ?_)
    refine lv_aload_n Z.1 Z.2.1 dX2_readLine_45 rfl (lv_at hl 1 rfl) ?_
    refine lv_iconst (v := nI 0) Z.1 Z.2.1 dX2_readLine_46 (by decide +kernel) ?_
    refine lv_iconst (v := nI 0) Z.1 Z.2.1 dX2_readLine_47 (by decide +kernel) ?_
    refine zk_cv (WF := fun uu => [(a 1, .inr (2, [.ref (a 10), .ref (a 11), .ref (a 12), .ref kc, .ref kv, .ref kn, .ref km, .int (nI sz), .int (nI uu.2.2.1), .int (nI ln), .int (nI uu.1), .int uu.2.1])), (a 11, .inl (g 0, 120, .inl (fun i => nI (tp i)))), (kn, .inl (g 0, 128, .inl (fun i => nI (uu.2.2.2.1 i)))), (km, .inl (g 0, 128, .inl (fun i => nI (uu.2.2.2.2 i))))]) (wr := []) ⟨rfl, rfl⟩ (zk_rv (As := [.int (nI 0), .int (nI 0)]) (rest := []) (q0 := 0) (ci := 2) Z (((zg_all l D g τ 42).1 a kc kv kn km sz ((zg_em 3 0 (ns1_3, C1_3, X1_3)).1) ln (p1_3 + 1) tp ((zg_em 3 0 (ns1_3, C1_3, X1_3)).2.1) ((zg_em 3 0 (ns1_3, C1_3, X1_3)).2.2) 0 0 (by exact hln) (by omega) (by exact ht) (by exact zg_em_le _ _ hns_3) (by decide) (by decide) (by decide)) H.size) hK hT hA G [0, 1, 2, 3] rfl (by decide) rfl rfl gX2_readLine_X2_readPart rfl dvX2_readPart ⟨by decide, by decide⟩ rfl hl.1 rfl (Nat.le_of_ble_eq_true rfl) dX2_readLine_48 ⟨Nat.zero_le _, Nat.zero_le _⟩) hA G [0, 1, 2, 3] [] [0, 1, 2, 3] rfl rfl (by decide) (by decide) (by decide) (fun _ => rfl) (fun uu H locs w_48 G => ?_)
    obtain ⟨p1_48, ft1_48, ns1_48, C1_48, X1_48⟩ := uu
    have G : zk_G D aA [(a 1, .inr (2, [.ref (a 10), .ref (a 11), .ref (a 12), .ref kc, .ref kv, .ref kn, .ref km, .int (nI sz), .int (nI ns1_48), .int (nI ln), .int (nI p1_48), .int ft1_48])), (a 11, .inl (g 0, 120, .inl (fun i => nI (tp i)))), (kn, .inl (g 0, 128, .inl (fun i => nI (C1_48 i)))), (km, .inl (g 0, 128, .inl (fun i => nI (X1_48 i))))] sS H locs := G
    have zb_48 := zg_le (em := zg_em) (ln := ln) ht 42 0 0 (p1_3 + 1) (((zg_em 3 0 (ns1_3, C1_3, X1_3)).1, (zg_em 3 0 (ns1_3, C1_3, X1_3)).2.1, (zg_em 3 0 (ns1_3, C1_3, X1_3)).2.2)) (by omega) (by decide) (by decide) (by decide)
    obtain ⟨w_48, hns_48⟩ := w_48
    have hns_48 : ns1_48 ≤ 128 := hns_48
    rcases hz_48 : zg tp ln zg_em 42 0 0 (p1_3 + 1) (zg_em 3 0 (ns1_3, C1_3, X1_3)) with e | ⟨a9, n9, C9, X9⟩
    · obtain ⟨h1_48, h2_48⟩ := zg_pl w_48 hz_48
      obtain rfl : p1_48 = e := h1_48
      obtain rfl : ft1_48 = nI p1_48 := h2_48
      have hb_48 := zb_48
      rw [hz_48] at hb_48
      have hp_48 : p1_48 ≤ ln := hb_48.2
      refine lv_aload_n Z.1 Z.2.1 dX2_readLine_51 rfl (lv_at hl 1 rfl) ?_
      refine lv_iconst (v := nI 4) Z.1 Z.2.1 dX2_readLine_52 (by decide +kernel) ?_
      refine lv_iconst (v := nI 0) Z.1 Z.2.1 dX2_readLine_53 (by decide +kernel) ?_
      refine zk_cv (WF := fun (_ : Unit) => [(a 1, .inr (2, [.ref (a 10), .ref (a 11), .ref (a 12), .ref kc, .ref kv, .ref kn, .ref km, .int (nI sz), .int (nI ((zg_em 4 0 (ns1_48, C1_48, X1_48)).1)), .int (nI ln), .int (nI p1_48), .int (nI p1_48)])), (a 11, .inl (g 0, 120, .inl (fun i => nI (tp i)))), (kn, .inl (g 0, 128, .inl (fun i => nI ((zg_em 4 0 (ns1_48, C1_48, X1_48)).2.1 i)))), (km, .inl (g 0, 128, .inl (fun i => nI ((zg_em 4 0 (ns1_48, C1_48, X1_48)).2.2 i))))]) (wr := [(a 11, .inl (g 0, 120, .inl (fun i => nI (tp i))))]) ⟨rfl, rfl⟩ (zk_rv (As := [.int (nI 4), .int (nI 0)]) (rest := []) (q0 := 0) (ci := 2) Z ((ct_X2_emit l D g τ a kc kv kn km sz ns1_48 ln p1_48 (nI p1_48) C1_48 X1_48 4 0 (by omega)) H.size) hK hT hA G [0, 2, 3] rfl (by decide) rfl rfl gX2_readLine_X2_emit rfl dvX2_emit ⟨by decide, by decide⟩ rfl hl.1 rfl (Nat.le_of_ble_eq_true rfl) dX2_readLine_54 ⟨Nat.zero_le _, Nat.zero_le _⟩) hA G [0, 2, 3] [1] [1, 0, 2, 3] rfl rfl (by decide) (by decide) (by decide) (fun _ => rfl) (fun _ H locs w_54 G => ?_)
      refine lv_iload_n Z.1 Z.2.1 dX2_readLine_57 rfl (lv_at hl 0 rfl) ?_
      refine lv_if_lt (tgt := 78) Z.1 Z.2.1 dX2_readLine_58 (by decide) (fun c58 => ?_) (fun c58 => ?_)
      · exfalso
        have c58 : ns1_3 < 0 := zk_lt (by omega) (by omega) c58
        omega
      have c58 : 0 ≤ ns1_3 := zk_nlt (by omega) (by omega) c58
      refine lv_iload_n Z.1 Z.2.1 dX2_readLine_61 rfl (lv_at hl 0 rfl) ?_
      refine lv_sipush (v := nI 128) Z.1 Z.2.1 dX2_readLine_62 (by decide +kernel) ?_
      refine lv_icmp_ge (tgt := 78) Z.1 Z.2.1 dX2_readLine_65 (by decide) (fun c65 => ?_) (fun c65 => ?_)
      · have c65 : 128 ≤ ns1_3 := zk_le (by omega) (by omega) c65
        exact zk_retv Z hR_ hlk hK hQ G (p1_48, nI p1_48, (zg_em 4 0 (ns1_48, C1_48, X1_48)).1, (zg_em 4 0 (ns1_48, C1_48, X1_48)).2.1, (zg_em 4 0 (ns1_48, C1_48, X1_48)).2.2) ⟨(by unfold zg_line; rw [hz_3]; simp only; rw [if_pos c21, hz_48]; exact ⟨rfl, rfl⟩), zg_em_le _ _ hns_48⟩ rfl dX2_readLine_78
      have c65 : ns1_3 < 128 := zk_nle (by omega) (by omega) c65
      refine lv_aload_n Z.1 Z.2.1 dX2_readLine_68 rfl (lv_at hl 1 rfl) ?_
      refine zk_get (C := RX2) (T := TX2) (N := 12) (ci := 2) Z hK G hinX2 0 rfl rfl 6 (by decide) (List.mem_of_getElem? (i := 4) rfl) rfl (v := .ref km) rfl dX2_readLine_69 ?_
      refine lv_iload_n Z.1 Z.2.1 dX2_readLine_72 rfl (lv_at hl 0 rfl) ?_
      refine lv_aload_n Z.1 Z.2.1 dX2_readLine_73 rfl (lv_at hl 1 rfl) ?_
      refine zk_get (C := RX2) (T := TX2) (N := 12) (ci := 2) Z hK G hinX2 0 rfl rfl 8 (by decide) (List.mem_of_getElem? (i := 3) rfl) rfl (v := .int (nI ((zg_em 4 0 (ns1_48, C1_48, X1_48)).1))) rfl dX2_readLine_74 ?_
      refine zk_iast Z hK G 3 rfl (k := ns1_3) (by omega) (by decide) (zs_up_n _ _ _) (ws' := [(a 1, .inr (2, [.ref (a 10), .ref (a 11), .ref (a 12), .ref kc, .ref kv, .ref kn, .ref km, .int (nI sz), .int (nI ((zg_em 4 0 (ns1_48, C1_48, X1_48)).1)), .int (nI ln), .int (nI p1_48), .int (nI p1_48)])), (a 11, .inl (g 0, 120, .inl (fun i => nI (tp i)))), (kn, .inl (g 0, 128, .inl (fun i => nI ((zg_em 4 0 (ns1_48, C1_48, X1_48)).2.1 i)))), (km, .inl (g 0, 128, .inl (fun i => nI (zs_up ((zg_em 4 0 (ns1_48, C1_48, X1_48)).2.2) ns1_3 ((zg_em 4 0 (ns1_48, C1_48, X1_48)).1) i))))]) rfl dX2_readLine_77 (fun H locs G => ?_)
      exact zk_retv Z hR_ hlk hK hQ G (p1_48, nI p1_48, (zg_em 4 0 (ns1_48, C1_48, X1_48)).1, (zg_em 4 0 (ns1_48, C1_48, X1_48)).2.1, zs_up (zg_em 4 0 (ns1_48, C1_48, X1_48)).2.2 ns1_3 (zg_em 4 0 (ns1_48, C1_48, X1_48)).1) ⟨(by unfold zg_line; rw [hz_3]; simp only; rw [if_pos c21, hz_48]; exact ⟨rfl, rfl⟩), zg_em_le _ _ hns_48⟩ rfl dX2_readLine_78
    · obtain ⟨h1_48, h2_48, h3_48⟩ := zg_pr w_48 hz_48
      obtain rfl : p1_48 = a9 := h1_48
      obtain rfl : ft1_48 = -1 := h2_48
      obtain ⟨rfl, rfl, rfl⟩ : ns1_48 = n9 ∧ C1_48 = C9 ∧ X1_48 = X9 := by
        have h4 := h3_48
        simp only [Prod.mk.injEq] at h4
        exact h4
      have hb_48 := zb_48
      rw [hz_48] at hb_48
      have hp_48 : p1_48 ≤ ln := hb_48.2
      refine lv_aload_n Z.1 Z.2.1 dX2_readLine_51 rfl (lv_at hl 1 rfl) ?_
      refine lv_iconst (v := nI 4) Z.1 Z.2.1 dX2_readLine_52 (by decide +kernel) ?_
      refine lv_iconst (v := nI 0) Z.1 Z.2.1 dX2_readLine_53 (by decide +kernel) ?_
      refine zk_cv (WF := fun (_ : Unit) => [(a 1, .inr (2, [.ref (a 10), .ref (a 11), .ref (a 12), .ref kc, .ref kv, .ref kn, .ref km, .int (nI sz), .int (nI ((zg_em 4 0 (ns1_48, C1_48, X1_48)).1)), .int (nI ln), .int (nI p1_48), .int (-1)])), (a 11, .inl (g 0, 120, .inl (fun i => nI (tp i)))), (kn, .inl (g 0, 128, .inl (fun i => nI ((zg_em 4 0 (ns1_48, C1_48, X1_48)).2.1 i)))), (km, .inl (g 0, 128, .inl (fun i => nI ((zg_em 4 0 (ns1_48, C1_48, X1_48)).2.2 i))))]) (wr := [(a 11, .inl (g 0, 120, .inl (fun i => nI (tp i))))]) ⟨rfl, rfl⟩ (zk_rv (As := [.int (nI 4), .int (nI 0)]) (rest := []) (q0 := 0) (ci := 2) Z ((ct_X2_emit l D g τ a kc kv kn km sz ns1_48 ln p1_48 (-1) C1_48 X1_48 4 0 (by omega)) H.size) hK hT hA G [0, 2, 3] rfl (by decide) rfl rfl gX2_readLine_X2_emit rfl dvX2_emit ⟨by decide, by decide⟩ rfl hl.1 rfl (Nat.le_of_ble_eq_true rfl) dX2_readLine_54 ⟨Nat.zero_le _, Nat.zero_le _⟩) hA G [0, 2, 3] [1] [1, 0, 2, 3] rfl rfl (by decide) (by decide) (by decide) (fun _ => rfl) (fun _ H locs w_54 G => ?_)
      refine lv_iload_n Z.1 Z.2.1 dX2_readLine_57 rfl (lv_at hl 0 rfl) ?_
      refine lv_if_lt (tgt := 78) Z.1 Z.2.1 dX2_readLine_58 (by decide) (fun c58 => ?_) (fun c58 => ?_)
      · exfalso
        have c58 : ns1_3 < 0 := zk_lt (by omega) (by omega) c58
        omega
      have c58 : 0 ≤ ns1_3 := zk_nlt (by omega) (by omega) c58
      refine lv_iload_n Z.1 Z.2.1 dX2_readLine_61 rfl (lv_at hl 0 rfl) ?_
      refine lv_sipush (v := nI 128) Z.1 Z.2.1 dX2_readLine_62 (by decide +kernel) ?_
      refine lv_icmp_ge (tgt := 78) Z.1 Z.2.1 dX2_readLine_65 (by decide) (fun c65 => ?_) (fun c65 => ?_)
      · have c65 : 128 ≤ ns1_3 := zk_le (by omega) (by omega) c65
        exact zk_retv Z hR_ hlk hK hQ G (p1_48, (-1), (zg_em 4 0 (ns1_48, C1_48, X1_48)).1, (zg_em 4 0 (ns1_48, C1_48, X1_48)).2.1, (zg_em 4 0 (ns1_48, C1_48, X1_48)).2.2) ⟨(by unfold zg_line; rw [hz_3]; simp only; rw [if_pos c21, hz_48]; refine ⟨rfl, rfl, ?_⟩; unfold zg_pt; rw [if_neg (Nat.not_lt.mpr c65)]), zg_em_le _ _ hns_48⟩ rfl dX2_readLine_78
      have c65 : ns1_3 < 128 := zk_nle (by omega) (by omega) c65
      refine lv_aload_n Z.1 Z.2.1 dX2_readLine_68 rfl (lv_at hl 1 rfl) ?_
      refine zk_get (C := RX2) (T := TX2) (N := 12) (ci := 2) Z hK G hinX2 0 rfl rfl 6 (by decide) (List.mem_of_getElem? (i := 4) rfl) rfl (v := .ref km) rfl dX2_readLine_69 ?_
      refine lv_iload_n Z.1 Z.2.1 dX2_readLine_72 rfl (lv_at hl 0 rfl) ?_
      refine lv_aload_n Z.1 Z.2.1 dX2_readLine_73 rfl (lv_at hl 1 rfl) ?_
      refine zk_get (C := RX2) (T := TX2) (N := 12) (ci := 2) Z hK G hinX2 0 rfl rfl 8 (by decide) (List.mem_of_getElem? (i := 3) rfl) rfl (v := .int (nI ((zg_em 4 0 (ns1_48, C1_48, X1_48)).1))) rfl dX2_readLine_74 ?_
      refine zk_iast Z hK G 3 rfl (k := ns1_3) (by omega) (by decide) (zs_up_n _ _ _) (ws' := [(a 1, .inr (2, [.ref (a 10), .ref (a 11), .ref (a 12), .ref kc, .ref kv, .ref kn, .ref km, .int (nI sz), .int (nI ((zg_em 4 0 (ns1_48, C1_48, X1_48)).1)), .int (nI ln), .int (nI p1_48), .int (-1)])), (a 11, .inl (g 0, 120, .inl (fun i => nI (tp i)))), (kn, .inl (g 0, 128, .inl (fun i => nI ((zg_em 4 0 (ns1_48, C1_48, X1_48)).2.1 i)))), (km, .inl (g 0, 128, .inl (fun i => nI (zs_up ((zg_em 4 0 (ns1_48, C1_48, X1_48)).2.2) ns1_3 ((zg_em 4 0 (ns1_48, C1_48, X1_48)).1) i))))]) rfl dX2_readLine_77 (fun H locs G => ?_)
      exact zk_retv Z hR_ hlk hK hQ G (p1_48, (-1), (zg_em 4 0 (ns1_48, C1_48, X1_48)).1, (zg_em 4 0 (ns1_48, C1_48, X1_48)).2.1, zs_up (zg_em 4 0 (ns1_48, C1_48, X1_48)).2.2 ns1_3 (zg_em 4 0 (ns1_48, C1_48, X1_48)).1) ⟨(by unfold zg_line; rw [hz_3]; simp only; rw [if_pos c21, hz_48]; refine ⟨rfl, rfl, ?_⟩; unfold zg_pt; rw [if_pos c65]), zg_em_le _ _ hns_48⟩ rfl dX2_readLine_78

abbrev rm_X2_takeNewCodes : Room := { frames := 0, cells := 0, slots := 0, locals := 0 }
theorem dvX2_takeNewCodes : zk_dv yX2_takeNewCodes RX2 0 := by decide +kernel
set_option maxRecDepth 100000 in
set_option maxHeartbeats 1500000 in
theorem ct_X2_takeNewCodes (l : Launch) (D : va_G) (g : Nat → ClassId) (τ : Nat → Nat) (a : Nat → Nat) (kc : Nat) (kv : Nat) (kn : Nat) (km : Nat) (sz : Nat) (ns : Nat) (ln : Nat) (p : Nat) (ft : Int32)  : zk_MV l D g τ yX2_takeNewCodes wsX2_takeNewCodes rm_X2_takeNewCodes [.ref (a 1)] [(a 1, .inr (2, [.ref (a 10), .ref (a 11), .ref (a 12), .ref kc, .ref kv, .ref kn, .ref km, .int (nI sz), .int (nI ns), .int (nI ln), .int (nI p), .int ft]))] (fun (_ : Unit) => True) (fun (_ : Unit) => [(a 1, .inr (2, [.ref (a 10), .ref (a 11), .ref (a 12), .ref kn, .ref km, .ref kc, .ref kv, .int (nI ns), .int (nI ns), .int (nI ln), .int (nI p), .int ft]))]) := by
  refine zk_of (Qc := fun A => va_Qv (fun (_ : Unit) => True) (zk_B D g A (fun (_ : Unit) => [(a 1, .inr (2, [.ref (a 10), .ref (a 11), .ref (a 12), .ref kn, .ref km, .ref kc, .ref kv, .int (nI ns), .int (nI ns), .int (nI ln), .int (nI p), .int ft]))])) A) (cc := cX2_takeNewCodes) (maxL := 3) (ret := none) (own := RX2) (by decide) rfl rfl (Nat.le_of_ble_eq_true rfl) ?_
  intro pP eE sS mM args below meth cC aA ls qQ Z hR_ hlk hnm hK hT hA hQ G hl
  have hinX2 : ∀ w ∈ u_ws RX2 TX2 12, w ∈ wsX2_takeNewCodes := (fun _ h => List.mem_cons_of_mem _ (List.mem_append_right _ h))
  refine lv_aload_n Z.1 Z.2.1 dX2_takeNewCodes_0 rfl (lv_at hl 0 rfl) ?_
  refine zk_get (C := RX2) (T := TX2) (N := 12) (ci := 2) Z hK G hinX2 0 rfl rfl 3 (by decide) (List.mem_of_getElem? (i := 1) rfl) rfl (v := .ref kc) rfl dX2_takeNewCodes_1 ?_
  refine lv_astore_n (lv' := [(1, .ref kc), (0, .ref (a 1))]) Z.1 Z.2.1 dX2_takeNewCodes_4 rfl hl (by decide) rfl (fun ls hl => ?_)
  refine lv_aload_n Z.1 Z.2.1 dX2_takeNewCodes_5 rfl (lv_at hl 1 rfl) ?_
  refine zk_get (C := RX2) (T := TX2) (N := 12) (ci := 2) Z hK G hinX2 0 rfl rfl 4 (by decide) (List.mem_of_getElem? (i := 2) rfl) rfl (v := .ref kv) rfl dX2_takeNewCodes_6 ?_
  refine lv_astore_n (lv' := [(2, .ref kv), (1, .ref kc), (0, .ref (a 1))]) Z.1 Z.2.1 dX2_takeNewCodes_9 rfl hl (by decide) rfl (fun ls hl => ?_)
  refine lv_aload_n Z.1 Z.2.1 dX2_takeNewCodes_10 rfl (lv_at hl 2 rfl) ?_
  refine lv_aload_n Z.1 Z.2.1 dX2_takeNewCodes_11 rfl (lv_at hl 2 rfl) ?_
  refine zk_get (C := RX2) (T := TX2) (N := 12) (ci := 2) Z hK G hinX2 0 rfl rfl 5 (by decide) (List.mem_of_getElem? (i := 3) rfl) rfl (v := .ref kn) rfl dX2_takeNewCodes_12 ?_
  refine zk_put tyX2 tyX2_ok nmX2 (C := RX2) (T := TX2) (N := 12) (ci := 2) Z hK G hinX2 0 rfl rfl 3 (by decide) (List.mem_of_getElem? (i := 1) rfl) rfl rfl rfl rfl (Nat.le_of_ble_eq_true rfl) (ws' := [(a 1, .inr (2, [.ref (a 10), .ref (a 11), .ref (a 12), .ref kn, .ref kv, .ref kn, .ref km, .int (nI sz), .int (nI ns), .int (nI ln), .int (nI p), .int ft]))]) rfl dX2_takeNewCodes_15 (fun H locs G => ?_)
  refine lv_aload_n Z.1 Z.2.1 dX2_takeNewCodes_18 rfl (lv_at hl 2 rfl) ?_
  refine lv_aload_n Z.1 Z.2.1 dX2_takeNewCodes_19 rfl (lv_at hl 2 rfl) ?_
  refine zk_get (C := RX2) (T := TX2) (N := 12) (ci := 2) Z hK G hinX2 0 rfl rfl 6 (by decide) (List.mem_of_getElem? (i := 4) rfl) rfl (v := .ref km) rfl dX2_takeNewCodes_20 ?_
  refine zk_put tyX2 tyX2_ok nmX2 (C := RX2) (T := TX2) (N := 12) (ci := 2) Z hK G hinX2 0 rfl rfl 4 (by decide) (List.mem_of_getElem? (i := 2) rfl) rfl rfl rfl rfl (Nat.le_of_ble_eq_true rfl) (ws' := [(a 1, .inr (2, [.ref (a 10), .ref (a 11), .ref (a 12), .ref kn, .ref km, .ref kn, .ref km, .int (nI sz), .int (nI ns), .int (nI ln), .int (nI p), .int ft]))]) rfl dX2_takeNewCodes_23 (fun H locs G => ?_)
  refine lv_aload_n Z.1 Z.2.1 dX2_takeNewCodes_26 rfl (lv_at hl 2 rfl) ?_
  refine lv_aload_n Z.1 Z.2.1 dX2_takeNewCodes_27 rfl (lv_at hl 2 rfl) ?_
  refine zk_get (C := RX2) (T := TX2) (N := 12) (ci := 2) Z hK G hinX2 0 rfl rfl 8 (by decide) (List.mem_of_getElem? (i := 5) rfl) rfl (v := .int (nI ns)) rfl dX2_takeNewCodes_28 ?_
  refine zk_put tyX2 tyX2_ok nmX2 (C := RX2) (T := TX2) (N := 12) (ci := 2) Z hK G hinX2 0 rfl rfl 7 (by decide) (List.mem_of_getElem? (i := 6) rfl) rfl rfl rfl rfl (Nat.le_of_ble_eq_true rfl) (ws' := [(a 1, .inr (2, [.ref (a 10), .ref (a 11), .ref (a 12), .ref kn, .ref km, .ref kn, .ref km, .int (nI ns), .int (nI ns), .int (nI ln), .int (nI p), .int ft]))]) rfl dX2_takeNewCodes_31 (fun H locs G => ?_)
  refine lv_aload_n Z.1 Z.2.1 dX2_takeNewCodes_34 rfl (lv_at hl 2 rfl) ?_
  refine lv_aload_n Z.1 Z.2.1 dX2_takeNewCodes_35 rfl (lv_at hl 1 rfl) ?_
  refine zk_put tyX2 tyX2_ok nmX2 (C := RX2) (T := TX2) (N := 12) (ci := 2) Z hK G hinX2 0 rfl rfl 5 (by decide) (List.mem_of_getElem? (i := 3) rfl) rfl rfl rfl rfl (Nat.le_of_ble_eq_true rfl) (ws' := [(a 1, .inr (2, [.ref (a 10), .ref (a 11), .ref (a 12), .ref kn, .ref km, .ref kc, .ref km, .int (nI ns), .int (nI ns), .int (nI ln), .int (nI p), .int ft]))]) rfl dX2_takeNewCodes_36 (fun H locs G => ?_)
  refine lv_aload_n Z.1 Z.2.1 dX2_takeNewCodes_39 rfl (lv_at hl 2 rfl) ?_
  refine lv_aload_n Z.1 Z.2.1 dX2_takeNewCodes_40 rfl (lv_at hl 0 rfl) ?_
  refine zk_put tyX2 tyX2_ok nmX2 (C := RX2) (T := TX2) (N := 12) (ci := 2) Z hK G hinX2 0 rfl rfl 6 (by decide) (List.mem_of_getElem? (i := 4) rfl) rfl rfl rfl rfl (Nat.le_of_ble_eq_true rfl) (ws' := [(a 1, .inr (2, [.ref (a 10), .ref (a 11), .ref (a 12), .ref kn, .ref km, .ref kc, .ref kv, .int (nI ns), .int (nI ns), .int (nI ln), .int (nI p), .int ft]))]) rfl dX2_takeNewCodes_41 (fun H locs G => ?_)
  exact zk_retv Z hR_ hlk hK hQ G () trivial rfl dX2_takeNewCodes_44

abbrev rm_X2_read : Room := { frames := 91, cells := 0, slots := 0, locals := 2695 }
theorem dvX2_read : zk_dv yX2_read RX2 0 := by decide +kernel
set_option maxRecDepth 100000 in
set_option maxHeartbeats 1500000 in
theorem ct_X2_read (l : Launch) (D : va_G) (g : Nat → ClassId) (τ : Nat → Nat) (a : Nat → Nat) (kc : Nat) (kv : Nat) (kn : Nat) (km : Nat) (sz : Nat) (ns : Nat) (ln : Nat) (p : Nat) (ft : Int32) (tp : Nat → Nat) (C : Nat → Nat) (X : Nat → Nat) (CN : Nat → Nat) (XN : Nat → Nat) (hln : ln ≤ 120) (ht : ∀ i, tp i < 256) : zk_MI l D g τ yX2_read wsX2_read rm_X2_read [.ref (a 1)] [(a 1, .inr (2, [.ref (a 10), .ref (a 11), .ref (a 12), .ref kc, .ref kv, .ref kn, .ref km, .int (nI sz), .int (nI ns), .int (nI ln), .int (nI p), .int ft])), (a 11, .inl (g 0, 120, .inl (fun i => nI (tp i)))), (kc, .inl (g 0, 128, .inl (fun i => nI (C i)))), (kv, .inl (g 0, 128, .inl (fun i => nI (X i)))), (kn, .inl (g 0, 128, .inl (fun i => nI (CN i)))), (km, .inl (g 0, 128, .inl (fun i => nI (XN i))))] (fun (r : Int32) (uu : Nat × Nat × Nat × Nat × Nat × Nat × Nat × Int32 × (Nat → Nat) × (Nat → Nat) × (Nat → Nat) × (Nat → Nat)) => (r = zg_ans (zg_read tp ln CN XN)) ∧ (zg_new (zg_read tp ln CN XN) sz C X uu.2.2.2.2.1 uu.2.2.2.2.2.2.2.2.1 uu.2.2.2.2.2.2.2.2.2.1)) (fun (uu : Nat × Nat × Nat × Nat × Nat × Nat × Nat × Int32 × (Nat → Nat) × (Nat → Nat) × (Nat → Nat) × (Nat → Nat)) => [(a 1, .inr (2, [.ref (a 10), .ref (a 11), .ref (a 12), .ref uu.1, .ref uu.2.1, .ref uu.2.2.1, .ref uu.2.2.2.1, .int (nI uu.2.2.2.2.1), .int (nI uu.2.2.2.2.2.1), .int (nI 0), .int (nI uu.2.2.2.2.2.2.1), .int uu.2.2.2.2.2.2.2.1])), (a 11, .inl (g 0, 120, .inl (fun i => nI (tp i)))), (uu.1, .inl (g 0, 128, .inl (fun i => nI (uu.2.2.2.2.2.2.2.2.1 i)))), (uu.2.1, .inl (g 0, 128, .inl (fun i => nI (uu.2.2.2.2.2.2.2.2.2.1 i)))), (uu.2.2.1, .inl (g 0, 128, .inl (fun i => nI (uu.2.2.2.2.2.2.2.2.2.2.1 i)))), (uu.2.2.2.1, .inl (g 0, 128, .inl (fun i => nI (uu.2.2.2.2.2.2.2.2.2.2.2 i))))]) := by
  refine zk_of (Qc := fun A => va_Qi (fun (r : Int32) (uu : Nat × Nat × Nat × Nat × Nat × Nat × Nat × Int32 × (Nat → Nat) × (Nat → Nat) × (Nat → Nat) × (Nat → Nat)) => (r = zg_ans (zg_read tp ln CN XN)) ∧ (zg_new (zg_read tp ln CN XN) sz C X uu.2.2.2.2.1 uu.2.2.2.2.2.2.2.2.1 uu.2.2.2.2.2.2.2.2.2.1)) (zk_B D g A (fun (uu : Nat × Nat × Nat × Nat × Nat × Nat × Nat × Int32 × (Nat → Nat) × (Nat → Nat) × (Nat → Nat) × (Nat → Nat)) => [(a 1, .inr (2, [.ref (a 10), .ref (a 11), .ref (a 12), .ref uu.1, .ref uu.2.1, .ref uu.2.2.1, .ref uu.2.2.2.1, .int (nI uu.2.2.2.2.1), .int (nI uu.2.2.2.2.2.1), .int (nI 0), .int (nI uu.2.2.2.2.2.2.1), .int uu.2.2.2.2.2.2.2.1])), (a 11, .inl (g 0, 120, .inl (fun i => nI (tp i)))), (uu.1, .inl (g 0, 128, .inl (fun i => nI (uu.2.2.2.2.2.2.2.2.1 i)))), (uu.2.1, .inl (g 0, 128, .inl (fun i => nI (uu.2.2.2.2.2.2.2.2.2.1 i)))), (uu.2.2.1, .inl (g 0, 128, .inl (fun i => nI (uu.2.2.2.2.2.2.2.2.2.2.1 i)))), (uu.2.2.2.1, .inl (g 0, 128, .inl (fun i => nI (uu.2.2.2.2.2.2.2.2.2.2.2 i))))])) A) (cc := cX2_read) (maxL := 2) (ret := (some .int)) (own := RX2) (by decide) rfl rfl (Nat.le_of_ble_eq_true rfl) ?_
  intro pP eE sS mM args below meth cC aA ls qQ Z hR_ hlk hnm hK hT hA hQ G hl
  have hinX2 : ∀ w ∈ u_ws RX2 TX2 12, w ∈ wsX2_read := (fun _ h => List.mem_cons_of_mem _ (List.mem_append_right _ h))
  refine lv_aload_n Z.1 Z.2.1 dX2_read_0 rfl (lv_at hl 0 rfl) ?_
  refine lv_iconst (v := nI 0) Z.1 Z.2.1 dX2_read_1 (by decide +kernel) ?_
  refine zk_put tyX2 tyX2_ok nmX2 (C := RX2) (T := TX2) (N := 12) (ci := 2) Z hK G hinX2 0 rfl rfl 10 (by decide) (List.mem_of_getElem? (i := 1) rfl) rfl rfl rfl rfl (Nat.le_of_ble_eq_true rfl) (ws' := [(a 1, .inr (2, [.ref (a 10), .ref (a 11), .ref (a 12), .ref kc, .ref kv, .ref kn, .ref km, .int (nI sz), .int (nI ns), .int (nI ln), .int (nI 0), .int ft])), (a 11, .inl (g 0, 120, .inl (fun i => nI (tp i)))), (kc, .inl (g 0, 128, .inl (fun i => nI (C i)))), (kv, .inl (g 0, 128, .inl (fun i => nI (X i)))), (kn, .inl (g 0, 128, .inl (fun i => nI (CN i)))), (km, .inl (g 0, 128, .inl (fun i => nI (XN i))))]) rfl dX2_read_2 (fun H locs G => ?_)
  refine lv_aload_n Z.1 Z.2.1 dX2_read_5 rfl (lv_at hl 0 rfl) ?_
  refine lv_iconst (v := (-1)) Z.1 Z.2.1 dX2_read_6 (by decide +kernel) ?_
  refine zk_put tyX2 tyX2_ok nmX2 (C := RX2) (T := TX2) (N := 12) (ci := 2) Z hK G hinX2 0 rfl rfl 11 (by decide) (List.mem_of_getElem? (i := 2) rfl) rfl rfl rfl rfl (Nat.le_of_ble_eq_true rfl) (ws' := [(a 1, .inr (2, [.ref (a 10), .ref (a 11), .ref (a 12), .ref kc, .ref kv, .ref kn, .ref km, .int (nI sz), .int (nI ns), .int (nI ln), .int (nI 0), .int (-1)])), (a 11, .inl (g 0, 120, .inl (fun i => nI (tp i)))), (kc, .inl (g 0, 128, .inl (fun i => nI (C i)))), (kv, .inl (g 0, 128, .inl (fun i => nI (X i)))), (kn, .inl (g 0, 128, .inl (fun i => nI (CN i)))), (km, .inl (g 0, 128, .inl (fun i => nI (XN i))))]) rfl dX2_read_7 (fun H locs G => ?_)
  refine lv_aload_n Z.1 Z.2.1 dX2_read_10 rfl (lv_at hl 0 rfl) ?_
  refine lv_iconst (v := nI 0) Z.1 Z.2.1 dX2_read_11 (by decide +kernel) ?_
  refine zk_put tyX2 tyX2_ok nmX2 (C := RX2) (T := TX2) (N := 12) (ci := 2) Z hK G hinX2 0 rfl rfl 8 (by decide) (List.mem_of_getElem? (i := 3) rfl) rfl rfl rfl rfl (Nat.le_of_ble_eq_true rfl) (ws' := [(a 1, .inr (2, [.ref (a 10), .ref (a 11), .ref (a 12), .ref kc, .ref kv, .ref kn, .ref km, .int (nI sz), .int (nI 0), .int (nI ln), .int (nI 0), .int (-1)])), (a 11, .inl (g 0, 120, .inl (fun i => nI (tp i)))), (kc, .inl (g 0, 128, .inl (fun i => nI (C i)))), (kv, .inl (g 0, 128, .inl (fun i => nI (X i)))), (kn, .inl (g 0, 128, .inl (fun i => nI (CN i)))), (km, .inl (g 0, 128, .inl (fun i => nI (XN i))))]) rfl dX2_read_12 (fun H locs G => ?_)
  refine lv_aload_n Z.1 Z.2.1 dX2_read_15 rfl (lv_at hl 0 rfl) ?_
  refine zk_cv (WF := fun uu => [(a 1, .inr (2, [.ref (a 10), .ref (a 11), .ref (a 12), .ref kc, .ref kv, .ref kn, .ref km, .int (nI sz), .int (nI uu.2.2.1), .int (nI ln), .int (nI uu.1), .int uu.2.1])), (a 11, .inl (g 0, 120, .inl (fun i => nI (tp i)))), (kc, .inl (g 0, 128, .inl (fun i => nI (C i)))), (kv, .inl (g 0, 128, .inl (fun i => nI (X i)))), (kn, .inl (g 0, 128, .inl (fun i => nI (uu.2.2.2.1 i)))), (km, .inl (g 0, 128, .inl (fun i => nI (uu.2.2.2.2 i))))]) (wr := [(kc, .inl (g 0, 128, .inl (fun i => nI (C i)))), (kv, .inl (g 0, 128, .inl (fun i => nI (X i))))]) ⟨rfl, rfl⟩ (zk_rv (As := []) (rest := []) (q0 := 0) (ci := 2) Z ((ct_X2_readLine l D g τ a kc kv kn km sz 0 ln 0 tp CN XN (by exact hln) (by exact Nat.zero_le _) (by exact ht) (by decide)) H.size) hK hT hA G [0, 1, 4, 5] rfl (by decide) rfl rfl gX2_read_X2_readLine rfl dvX2_readLine ⟨by decide, by decide⟩ rfl hl.1 rfl (Nat.le_of_ble_eq_true rfl) dX2_read_16 ⟨Nat.zero_le _, Nat.zero_le _⟩) hA G [0, 1, 4, 5] [2, 3] [2, 3, 0, 1, 4, 5] rfl rfl (by decide) (by decide) (by decide) (fun _ => rfl) (fun uu H locs w_16 G => ?_)
  obtain ⟨p1_16, ft1_16, ns1_16, C1_16, X1_16⟩ := uu
  have G : zk_G D aA [(a 1, .inr (2, [.ref (a 10), .ref (a 11), .ref (a 12), .ref kc, .ref kv, .ref kn, .ref km, .int (nI sz), .int (nI ns1_16), .int (nI ln), .int (nI p1_16), .int ft1_16])), (a 11, .inl (g 0, 120, .inl (fun i => nI (tp i)))), (kc, .inl (g 0, 128, .inl (fun i => nI (C i)))), (kv, .inl (g 0, 128, .inl (fun i => nI (X i)))), (kn, .inl (g 0, 128, .inl (fun i => nI (C1_16 i)))), (km, .inl (g 0, 128, .inl (fun i => nI (X1_16 i))))] sS H locs := G
  have zb_16 := zg_line_in (tp := tp) (ln := ln) (p := 0) (s := (0, CN, XN)) ht (Nat.zero_le _)
  obtain ⟨w_16, hns_16⟩ := w_16
  have hns_16 : ns1_16 ≤ 128 := hns_16
  rcases hz_16 : zg_line tp ln 0 (0, CN, XN) with e | ⟨a9, n9, C9, X9⟩
  · obtain ⟨h1_16, h2_16⟩ := zg_pl w_16 hz_16
    obtain rfl : p1_16 = e := h1_16
    obtain rfl : ft1_16 = nI p1_16 := h2_16
    have hb_16 := zb_16
    rw [hz_16] at hb_16
    have hp_16 : p1_16 ≤ ln := hb_16.2
    refine lv_iconst (v := nI 1) Z.1 Z.2.1 dX2_read_19 (by decide +kernel) ?_
    refine lv_istore_n (lv' := [(1, .int (nI 1)), (0, .ref (a 1))]) Z.1 Z.2.1 dX2_read_20 rfl hl (by decide) rfl (fun ls hl => ?_)
    refine lv_iload_n Z.1 Z.2.1 dX2_read_21 rfl (lv_at hl 0 rfl) ?_
    refine lv_bipush (v := nI 120) Z.1 Z.2.1 dX2_read_22 (by decide +kernel) ?_
    refine lv_icmp_ge (tgt := 63) Z.1 Z.2.1 dX2_read_24 (by decide) (fun c24 => ?_) (fun c24 => ?_)
    · have c24 : 120 ≤ 1 := zk_le (by omega) (by omega) c24
      refine lv_aload_n Z.1 Z.2.1 dX2_read_63 rfl (lv_at hl 1 rfl) ?_
      refine zk_get (C := RX2) (T := TX2) (N := 12) (ci := 2) Z hK G hinX2 0 rfl rfl 11 (by decide) (List.mem_of_getElem? (i := 2) rfl) rfl (v := .int (nI p1_16)) rfl dX2_read_64 ?_
      refine lv_if_ge (tgt := 89) Z.1 Z.2.1 dX2_read_67 (by decide) (fun c67 => ?_) (fun c67 => ?_)
      · have c67 : 0 ≤ p1_16 := zk_le (by omega) (by omega) c67
        refine lv_aload_n Z.1 Z.2.1 dX2_read_89 rfl (lv_at hl 1 rfl) ?_
        refine zk_get (C := RX2) (T := TX2) (N := 12) (ci := 2) Z hK G hinX2 0 rfl rfl 11 (by decide) (List.mem_of_getElem? (i := 2) rfl) rfl (v := .int (nI p1_16)) rfl dX2_read_90 ?_
        refine lv_if_ge (tgt := 100) Z.1 Z.2.1 dX2_read_93 (by decide) (fun c93 => ?_) (fun c93 => ?_)
        · have c93 : 0 ≤ p1_16 := zk_le (by omega) (by omega) c93
          refine lv_aload_n Z.1 Z.2.1 dX2_read_100 rfl (lv_at hl 1 rfl) ?_
          refine lv_iconst (v := nI 0) Z.1 Z.2.1 dX2_read_101 (by decide +kernel) ?_
          refine zk_put tyX2 tyX2_ok nmX2 (C := RX2) (T := TX2) (N := 12) (ci := 2) Z hK G hinX2 0 rfl rfl 9 (by decide) (List.mem_of_getElem? (i := 4) rfl) rfl rfl rfl rfl (Nat.le_of_ble_eq_true rfl) (ws' := [(a 1, .inr (2, [.ref (a 10), .ref (a 11), .ref (a 12), .ref kc, .ref kv, .ref kn, .ref km, .int (nI sz), .int (nI ns1_16), .int (nI 0), .int (nI p1_16), .int (nI p1_16)])), (a 11, .inl (g 0, 120, .inl (fun i => nI (tp i)))), (kc, .inl (g 0, 128, .inl (fun i => nI (C i)))), (kv, .inl (g 0, 128, .inl (fun i => nI (X i)))), (kn, .inl (g 0, 128, .inl (fun i => nI (C1_16 i)))), (km, .inl (g 0, 128, .inl (fun i => nI (X1_16 i))))]) rfl dX2_read_102 (fun H locs G => ?_)
          refine lv_aload_n Z.1 Z.2.1 dX2_read_105 rfl (lv_at hl 1 rfl) ?_
          refine zk_get (C := RX2) (T := TX2) (N := 12) (ci := 2) Z hK G hinX2 0 rfl rfl 11 (by decide) (List.mem_of_getElem? (i := 2) rfl) rfl (v := .int (nI p1_16)) rfl dX2_read_106 ?_
          have hR9 : (zg_read tp ln CN XN) = .inl p1_16 := by unfold zg_read; rw [hz_16]
          exact zk_reti Z hR_ hlk hK hQ G (kc, kv, kn, km, sz, ns1_16, p1_16, nI p1_16, C, X, C1_16, X1_16) ⟨(by rw [hR9]; rfl), (by rw [hR9]; exact ⟨rfl, rfl, rfl⟩)⟩ rfl dX2_read_109
        exfalso
        have c93 : p1_16 < 0 := zk_nle (by omega) (by omega) c93
        omega
      exfalso
      have c67 : p1_16 < 0 := zk_nle (by omega) (by omega) c67
      omega
    have c24 : 1 < 120 := zk_nle (by omega) (by omega) c24
    refine lv_aload_n Z.1 Z.2.1 dX2_read_27 rfl (lv_at hl 1 rfl) ?_
    refine zk_get (C := RX2) (T := TX2) (N := 12) (ci := 2) Z hK G hinX2 0 rfl rfl 11 (by decide) (List.mem_of_getElem? (i := 2) rfl) rfl (v := .int (nI p1_16)) rfl dX2_read_28 ?_
    refine lv_if_ge (tgt := 63) Z.1 Z.2.1 dX2_read_31 (by decide) (fun c31 => ?_) (fun c31 => ?_)
    · have c31 : 0 ≤ p1_16 := zk_le (by omega) (by omega) c31
      refine lv_aload_n Z.1 Z.2.1 dX2_read_63 rfl (lv_at hl 1 rfl) ?_
      refine zk_get (C := RX2) (T := TX2) (N := 12) (ci := 2) Z hK G hinX2 0 rfl rfl 11 (by decide) (List.mem_of_getElem? (i := 2) rfl) rfl (v := .int (nI p1_16)) rfl dX2_read_64 ?_
      refine lv_if_ge (tgt := 89) Z.1 Z.2.1 dX2_read_67 (by decide) (fun c67 => ?_) (fun c67 => ?_)
      · have c67 : 0 ≤ p1_16 := zk_le (by omega) (by omega) c67
        refine lv_aload_n Z.1 Z.2.1 dX2_read_89 rfl (lv_at hl 1 rfl) ?_
        refine zk_get (C := RX2) (T := TX2) (N := 12) (ci := 2) Z hK G hinX2 0 rfl rfl 11 (by decide) (List.mem_of_getElem? (i := 2) rfl) rfl (v := .int (nI p1_16)) rfl dX2_read_90 ?_
        refine lv_if_ge (tgt := 100) Z.1 Z.2.1 dX2_read_93 (by decide) (fun c93 => ?_) (fun c93 => ?_)
        · have c93 : 0 ≤ p1_16 := zk_le (by omega) (by omega) c93
          refine lv_aload_n Z.1 Z.2.1 dX2_read_100 rfl (lv_at hl 1 rfl) ?_
          refine lv_iconst (v := nI 0) Z.1 Z.2.1 dX2_read_101 (by decide +kernel) ?_
          refine zk_put tyX2 tyX2_ok nmX2 (C := RX2) (T := TX2) (N := 12) (ci := 2) Z hK G hinX2 0 rfl rfl 9 (by decide) (List.mem_of_getElem? (i := 4) rfl) rfl rfl rfl rfl (Nat.le_of_ble_eq_true rfl) (ws' := [(a 1, .inr (2, [.ref (a 10), .ref (a 11), .ref (a 12), .ref kc, .ref kv, .ref kn, .ref km, .int (nI sz), .int (nI ns1_16), .int (nI 0), .int (nI p1_16), .int (nI p1_16)])), (a 11, .inl (g 0, 120, .inl (fun i => nI (tp i)))), (kc, .inl (g 0, 128, .inl (fun i => nI (C i)))), (kv, .inl (g 0, 128, .inl (fun i => nI (X i)))), (kn, .inl (g 0, 128, .inl (fun i => nI (C1_16 i)))), (km, .inl (g 0, 128, .inl (fun i => nI (X1_16 i))))]) rfl dX2_read_102 (fun H locs G => ?_)
          refine lv_aload_n Z.1 Z.2.1 dX2_read_105 rfl (lv_at hl 1 rfl) ?_
          refine zk_get (C := RX2) (T := TX2) (N := 12) (ci := 2) Z hK G hinX2 0 rfl rfl 11 (by decide) (List.mem_of_getElem? (i := 2) rfl) rfl (v := .int (nI p1_16)) rfl dX2_read_106 ?_
          have hR9 : (zg_read tp ln CN XN) = .inl p1_16 := by unfold zg_read; rw [hz_16]
          exact zk_reti Z hR_ hlk hK hQ G (kc, kv, kn, km, sz, ns1_16, p1_16, nI p1_16, C, X, C1_16, X1_16) ⟨(by rw [hR9]; rfl), (by rw [hR9]; exact ⟨rfl, rfl, rfl⟩)⟩ rfl dX2_read_109
        exfalso
        have c93 : p1_16 < 0 := zk_nle (by omega) (by omega) c93
        omega
      exfalso
      have c67 : p1_16 < 0 := zk_nle (by omega) (by omega) c67
      omega
    exfalso
    have c31 : p1_16 < 0 := zk_nle (by omega) (by omega) c31
    omega
  · obtain ⟨h1_16, h2_16, h3_16⟩ := zg_pr w_16 hz_16
    obtain rfl : p1_16 = a9 := h1_16
    obtain rfl : ft1_16 = -1 := h2_16
    obtain ⟨rfl, rfl, rfl⟩ : ns1_16 = n9 ∧ C1_16 = C9 ∧ X1_16 = X9 := by
      have h4 := h3_16
      simp only [Prod.mk.injEq] at h4
      exact h4
    have hb_16 := zb_16
    rw [hz_16] at hb_16
    have hp_16 : p1_16 ≤ ln := hb_16.2
    refine lv_iconst (v := nI 1) Z.1 Z.2.1 dX2_read_19 (by decide +kernel) ?_
    refine lv_istore_n (lv' := [(1, .int (nI 1)), (0, .ref (a 1))]) Z.1 Z.2.1 dX2_read_20 rfl hl (by decide) rfl (fun ls hl => ?_)
    have L21 : ∀ (nN : Nat) (k1 : Nat) (f : Nat) (p2 : Nat) (ns2 : Nat) (C2 : Nat → Nat) (X2 : Nat → Nat), f < nN → (k1 + f = 120) → (1 ≤ k1) → (p2 ≤ ln) → (ns2 ≤ 128) → ((match zg_lines tp ln f p2 (ns2, C2, X2) with | .inl e => Sum.inl e | .inr q => if q.1 < ln then Sum.inl q.1 else Sum.inr q) = (zg_read tp ln CN XN)) → ∀ (H : Heap) (locs : List Loc) (ls : Array Slot), zk_G D aA [(a 1, .inr (2, [.ref (a 10), .ref (a 11), .ref (a 12), .ref kc, .ref kv, .ref kn, .ref km, .int (nI sz), .int (nI ns2), .int (nI ln), .int (nI p2), .int (-1)])), (a 11, .inl (g 0, 120, .inl (fun i => nI (tp i)))), (kc, .inl (g 0, 128, .inl (fun i => nI (C i)))), (kv, .inl (g 0, 128, .inl (fun i => nI (X i)))), (kn, .inl (g 0, 128, .inl (fun i => nI (C2 i)))), (km, .inl (g 0, 128, .inl (fun i => nI (X2 i))))] sS H locs → lv_has ls 2 [(0, .ref (a 1)), (1, .int (nI k1))] → W pP l eE rm_X2_read sS mM args below meth cC H locs 0 0 qQ (F0 mM 21 ls []) := by
      intro nN
      induction nN with
      | zero => intros; omega
      | succ nN ih21 =>
        intro k1 f p2 ns2 C2 X2 hμ hif hk1 hp2 hn2 hs H locs ls G hl
        refine lv_iload_n Z.1 Z.2.1 dX2_read_21 rfl (lv_at hl 1 rfl) ?_
        refine lv_bipush (v := nI 120) Z.1 Z.2.1 dX2_read_22 (by decide +kernel) ?_
        refine lv_icmp_ge (tgt := 63) Z.1 Z.2.1 dX2_read_24 (by decide) (fun c24 => ?_) (fun c24 => ?_)
        · have c24 : 120 ≤ k1 := zk_le (by omega) (by omega) c24
          refine lv_aload_n Z.1 Z.2.1 dX2_read_63 rfl (lv_at hl 0 rfl) ?_
          refine zk_get (C := RX2) (T := TX2) (N := 12) (ci := 2) Z hK G hinX2 0 rfl rfl 11 (by decide) (List.mem_of_getElem? (i := 2) rfl) rfl (v := .int (-1)) rfl dX2_read_64 ?_
          refine lv_if_ge (tgt := 89) Z.1 Z.2.1 dX2_read_67 (by decide) (fun c67 => ?_) (fun c67 => ?_)
          · exfalso
            have c67 : 0 ≤ ((-1) : Int32) := c67
            exact absurd c67 (by decide)
          have c67 : ¬ 0 ≤ ((-1) : Int32) := c67
          refine lv_aload_n Z.1 Z.2.1 dX2_read_70 rfl (lv_at hl 0 rfl) ?_
          refine zk_get (C := RX2) (T := TX2) (N := 12) (ci := 2) Z hK G hinX2 0 rfl rfl 10 (by decide) (List.mem_of_getElem? (i := 1) rfl) rfl (v := .int (nI p2)) rfl dX2_read_71 ?_
          refine lv_aload_n Z.1 Z.2.1 dX2_read_74 rfl (lv_at hl 0 rfl) ?_
          refine zk_get (C := RX2) (T := TX2) (N := 12) (ci := 2) Z hK G hinX2 0 rfl rfl 9 (by decide) (List.mem_of_getElem? (i := 4) rfl) rfl (v := .int (nI ln)) rfl dX2_read_75 ?_
          refine lv_icmp_ge (tgt := 89) Z.1 Z.2.1 dX2_read_78 (by decide) (fun c78 => ?_) (fun c78 => ?_)
          · have c78 : ln ≤ p2 := zk_le (by omega) (by omega) c78
            refine lv_aload_n Z.1 Z.2.1 dX2_read_89 rfl (lv_at hl 0 rfl) ?_
            refine zk_get (C := RX2) (T := TX2) (N := 12) (ci := 2) Z hK G hinX2 0 rfl rfl 11 (by decide) (List.mem_of_getElem? (i := 2) rfl) rfl (v := .int (-1)) rfl dX2_read_90 ?_
            refine lv_if_ge (tgt := 100) Z.1 Z.2.1 dX2_read_93 (by decide) (fun c93 => ?_) (fun c93 => ?_)
            · exfalso
              have c93 : 0 ≤ ((-1) : Int32) := c93
              exact absurd c93 (by decide)
            have c93 : ¬ 0 ≤ ((-1) : Int32) := c93
            refine lv_aload_n Z.1 Z.2.1 dX2_read_96 rfl (lv_at hl 0 rfl) ?_
            refine zk_cv (WF := fun (_ : Unit) => [(a 1, .inr (2, [.ref (a 10), .ref (a 11), .ref (a 12), .ref kn, .ref km, .ref kc, .ref kv, .int (nI ns2), .int (nI ns2), .int (nI ln), .int (nI p2), .int (-1)])), (a 11, .inl (g 0, 120, .inl (fun i => nI (tp i)))), (kc, .inl (g 0, 128, .inl (fun i => nI (C i)))), (kv, .inl (g 0, 128, .inl (fun i => nI (X i)))), (kn, .inl (g 0, 128, .inl (fun i => nI (C2 i)))), (km, .inl (g 0, 128, .inl (fun i => nI (X2 i))))]) (wr := [(a 11, .inl (g 0, 120, .inl (fun i => nI (tp i)))), (kc, .inl (g 0, 128, .inl (fun i => nI (C i)))), (kv, .inl (g 0, 128, .inl (fun i => nI (X i)))), (kn, .inl (g 0, 128, .inl (fun i => nI (C2 i)))), (km, .inl (g 0, 128, .inl (fun i => nI (X2 i))))]) ⟨rfl, rfl⟩ (zk_rv (As := []) (rest := []) (q0 := 0) (ci := 2) Z ((ct_X2_takeNewCodes l D g τ a kc kv kn km sz ns2 ln p2 (-1) ) H.size) hK hT hA G [0] rfl (by decide) rfl rfl gX2_read_X2_takeNewCodes rfl dvX2_takeNewCodes ⟨by decide, by decide⟩ rfl hl.1 rfl (Nat.le_of_ble_eq_true rfl) dX2_read_97 ⟨Nat.zero_le _, Nat.zero_le _⟩) hA G [0] [1, 2, 3, 4, 5] [5, 0, 1, 2, 3, 4] rfl rfl (by decide) (by decide) (by decide) (fun _ => rfl) (fun _ H locs w_97 G => ?_)
            have G : zk_G D aA [(a 1, .inr (2, [.ref (a 10), .ref (a 11), .ref (a 12), .ref kn, .ref km, .ref kc, .ref kv, .int (nI ns2), .int (nI ns2), .int (nI ln), .int (nI p2), .int (-1)])), (a 11, .inl (g 0, 120, .inl (fun i => nI (tp i)))), (kn, .inl (g 0, 128, .inl (fun i => nI (C2 i)))), (km, .inl (g 0, 128, .inl (fun i => nI (X2 i)))), (kc, .inl (g 0, 128, .inl (fun i => nI (C i)))), (kv, .inl (g 0, 128, .inl (fun i => nI (X i))))] sS H locs := zk_perm G [0, 1, 4, 5, 2, 3] rfl (by decide)
            refine lv_aload_n Z.1 Z.2.1 dX2_read_100 rfl (lv_at hl 0 rfl) ?_
            refine lv_iconst (v := nI 0) Z.1 Z.2.1 dX2_read_101 (by decide +kernel) ?_
            refine zk_put tyX2 tyX2_ok nmX2 (C := RX2) (T := TX2) (N := 12) (ci := 2) Z hK G hinX2 0 rfl rfl 9 (by decide) (List.mem_of_getElem? (i := 4) rfl) rfl rfl rfl rfl (Nat.le_of_ble_eq_true rfl) (ws' := [(a 1, .inr (2, [.ref (a 10), .ref (a 11), .ref (a 12), .ref kn, .ref km, .ref kc, .ref kv, .int (nI ns2), .int (nI ns2), .int (nI 0), .int (nI p2), .int (-1)])), (a 11, .inl (g 0, 120, .inl (fun i => nI (tp i)))), (kn, .inl (g 0, 128, .inl (fun i => nI (C2 i)))), (km, .inl (g 0, 128, .inl (fun i => nI (X2 i)))), (kc, .inl (g 0, 128, .inl (fun i => nI (C i)))), (kv, .inl (g 0, 128, .inl (fun i => nI (X i))))]) rfl dX2_read_102 (fun H locs G => ?_)
            refine lv_aload_n Z.1 Z.2.1 dX2_read_105 rfl (lv_at hl 0 rfl) ?_
            refine zk_get (C := RX2) (T := TX2) (N := 12) (ci := 2) Z hK G hinX2 0 rfl rfl 11 (by decide) (List.mem_of_getElem? (i := 2) rfl) rfl (v := .int (-1)) rfl dX2_read_106 ?_
            have hL9 : zg_lines tp ln f p2 (ns2, C2, X2) = .inr (p2, (ns2, C2, X2)) := by rw [show f = 0 by omega]; rfl
            have hR9 : (zg_read tp ln CN XN) = .inr (p2, (ns2, C2, X2)) := by rw [← hs, hL9]; simp only; rw [if_neg (Nat.not_lt.mpr c78)]
            exact zk_reti Z hR_ hlk hK hQ G (kn, km, kc, kv, ns2, ns2, p2, (-1), C2, X2, C, X) ⟨(by rw [hR9]; rfl), (by rw [hR9]; rfl)⟩ rfl dX2_read_109
          have c78 : p2 < ln := zk_nle (by omega) (by omega) c78
          refine lv_aload_n Z.1 Z.2.1 dX2_read_81 rfl (lv_at hl 0 rfl) ?_
          refine lv_aload_n Z.1 Z.2.1 dX2_read_82 rfl (lv_at hl 0 rfl) ?_
          refine zk_get (C := RX2) (T := TX2) (N := 12) (ci := 2) Z hK G hinX2 0 rfl rfl 10 (by decide) (List.mem_of_getElem? (i := 1) rfl) rfl (v := .int (nI p2)) rfl dX2_read_83 ?_
          refine zk_put tyX2 tyX2_ok nmX2 (C := RX2) (T := TX2) (N := 12) (ci := 2) Z hK G hinX2 0 rfl rfl 11 (by decide) (List.mem_of_getElem? (i := 2) rfl) rfl rfl rfl rfl (Nat.le_of_ble_eq_true rfl) (ws' := [(a 1, .inr (2, [.ref (a 10), .ref (a 11), .ref (a 12), .ref kc, .ref kv, .ref kn, .ref km, .int (nI sz), .int (nI ns2), .int (nI ln), .int (nI p2), .int (nI p2)])), (a 11, .inl (g 0, 120, .inl (fun i => nI (tp i)))), (kc, .inl (g 0, 128, .inl (fun i => nI (C i)))), (kv, .inl (g 0, 128, .inl (fun i => nI (X i)))), (kn, .inl (g 0, 128, .inl (fun i => nI (C2 i)))), (km, .inl (g 0, 128, .inl (fun i => nI (X2 i))))]) rfl dX2_read_86 (fun H locs G => ?_)
          refine lv_aload_n Z.1 Z.2.1 dX2_read_89 rfl (lv_at hl 0 rfl) ?_
          refine zk_get (C := RX2) (T := TX2) (N := 12) (ci := 2) Z hK G hinX2 0 rfl rfl 11 (by decide) (List.mem_of_getElem? (i := 2) rfl) rfl (v := .int (nI p2)) rfl dX2_read_90 ?_
          refine lv_if_ge (tgt := 100) Z.1 Z.2.1 dX2_read_93 (by decide) (fun c93 => ?_) (fun c93 => ?_)
          · have c93 : 0 ≤ p2 := zk_le (by omega) (by omega) c93
            refine lv_aload_n Z.1 Z.2.1 dX2_read_100 rfl (lv_at hl 0 rfl) ?_
            refine lv_iconst (v := nI 0) Z.1 Z.2.1 dX2_read_101 (by decide +kernel) ?_
            refine zk_put tyX2 tyX2_ok nmX2 (C := RX2) (T := TX2) (N := 12) (ci := 2) Z hK G hinX2 0 rfl rfl 9 (by decide) (List.mem_of_getElem? (i := 4) rfl) rfl rfl rfl rfl (Nat.le_of_ble_eq_true rfl) (ws' := [(a 1, .inr (2, [.ref (a 10), .ref (a 11), .ref (a 12), .ref kc, .ref kv, .ref kn, .ref km, .int (nI sz), .int (nI ns2), .int (nI 0), .int (nI p2), .int (nI p2)])), (a 11, .inl (g 0, 120, .inl (fun i => nI (tp i)))), (kc, .inl (g 0, 128, .inl (fun i => nI (C i)))), (kv, .inl (g 0, 128, .inl (fun i => nI (X i)))), (kn, .inl (g 0, 128, .inl (fun i => nI (C2 i)))), (km, .inl (g 0, 128, .inl (fun i => nI (X2 i))))]) rfl dX2_read_102 (fun H locs G => ?_)
            refine lv_aload_n Z.1 Z.2.1 dX2_read_105 rfl (lv_at hl 0 rfl) ?_
            refine zk_get (C := RX2) (T := TX2) (N := 12) (ci := 2) Z hK G hinX2 0 rfl rfl 11 (by decide) (List.mem_of_getElem? (i := 2) rfl) rfl (v := .int (nI p2)) rfl dX2_read_106 ?_
            have hL9 : zg_lines tp ln f p2 (ns2, C2, X2) = .inr (p2, (ns2, C2, X2)) := by rw [show f = 0 by omega]; rfl
            have hR9 : (zg_read tp ln CN XN) = .inl p2 := by rw [← hs, hL9]; simp only; rw [if_pos c78]
            exact zk_reti Z hR_ hlk hK hQ G (kc, kv, kn, km, sz, ns2, p2, nI p2, C, X, C2, X2) ⟨(by rw [hR9]; rfl), (by rw [hR9]; exact ⟨rfl, rfl, rfl⟩)⟩ rfl dX2_read_109
          exfalso
          have c93 : p2 < 0 := zk_nle (by omega) (by omega) c93
          omega
        have c24 : k1 < 120 := zk_nle (by omega) (by omega) c24
        obtain ⟨f9, rfl⟩ : ∃ f9, f = f9 + 1 := ⟨f - 1, by omega⟩
        refine lv_aload_n Z.1 Z.2.1 dX2_read_27 rfl (lv_at hl 0 rfl) ?_
        refine zk_get (C := RX2) (T := TX2) (N := 12) (ci := 2) Z hK G hinX2 0 rfl rfl 11 (by decide) (List.mem_of_getElem? (i := 2) rfl) rfl (v := .int (-1)) rfl dX2_read_28 ?_
        refine lv_if_ge (tgt := 63) Z.1 Z.2.1 dX2_read_31 (by decide) (fun c31 => ?_) (fun c31 => ?_)
        · exfalso
          have c31 : 0 ≤ ((-1) : Int32) := c31
          exact absurd c31 (by decide)
        have c31 : ¬ 0 ≤ ((-1) : Int32) := c31
        refine lv_aload_n Z.1 Z.2.1 dX2_read_34 rfl (lv_at hl 0 rfl) ?_
        refine zk_ci (WF := fun (_ : Unit) => [(a 1, .inr (2, [.ref (a 10), .ref (a 11), .ref (a 12), .ref kc, .ref kv, .ref kn, .ref km, .int (nI sz), .int (nI ns2), .int (nI ln), .int (nI p2), .int (-1)])), (a 11, .inl (g 0, 120, .inl (fun i => nI (tp i)))), (kc, .inl (g 0, 128, .inl (fun i => nI (C i)))), (kv, .inl (g 0, 128, .inl (fun i => nI (X i)))), (kn, .inl (g 0, 128, .inl (fun i => nI (C2 i)))), (km, .inl (g 0, 128, .inl (fun i => nI (X2 i))))]) (wr := [(kc, .inl (g 0, 128, .inl (fun i => nI (C i)))), (kv, .inl (g 0, 128, .inl (fun i => nI (X i)))), (kn, .inl (g 0, 128, .inl (fun i => nI (C2 i)))), (km, .inl (g 0, 128, .inl (fun i => nI (X2 i))))]) ⟨rfl, rfl⟩ (zk_rv (As := []) (rest := []) (q0 := 0) (ci := 2) Z ((ct_X2_letter l D g τ a kc kv kn km sz ns2 ln p2 (-1) tp (by exact hln) (by omega)) H.size) hK hT hA G [0, 1] rfl (by decide) rfl rfl gX2_read_X2_letter rfl dvX2_letter ⟨by decide, by decide⟩ rfl hl.1 rfl (Nat.le_of_ble_eq_true rfl) dX2_read_35 ⟨Nat.zero_le _, Nat.zero_le _⟩) hA G [0, 1] [2, 3, 4, 5] [4, 5, 0, 1, 2, 3] rfl rfl (by decide) (by decide) (by decide) (fun _ => rfl) (fun r_35 _ H locs w_35 G => ?_)
        obtain rfl : r_35 = zg_l tp ln p2 := w_35
        refine lv_bipush (v := nI 59) Z.1 Z.2.1 dX2_read_38 (by decide +kernel) ?_
        refine lv_icmp_ne (tgt := 63) Z.1 Z.2.1 dX2_read_40 (by decide) (fun c40 => ?_) (fun c40 => ?_)
        · have c40 : ¬ zg_c tp ln p2 = 59 := fun q9 => c40 ((zg_l_eq ht (by decide) (by decide)).mpr q9)
          refine lv_aload_n Z.1 Z.2.1 dX2_read_63 rfl (lv_at hl 0 rfl) ?_
          refine zk_get (C := RX2) (T := TX2) (N := 12) (ci := 2) Z hK G hinX2 0 rfl rfl 11 (by decide) (List.mem_of_getElem? (i := 2) rfl) rfl (v := .int (-1)) rfl dX2_read_64 ?_
          refine lv_if_ge (tgt := 89) Z.1 Z.2.1 dX2_read_67 (by decide) (fun c67 => ?_) (fun c67 => ?_)
          · exfalso
            have c67 : 0 ≤ ((-1) : Int32) := c67
            exact absurd c67 (by decide)
          have c67 : ¬ 0 ≤ ((-1) : Int32) := c67
          refine lv_aload_n Z.1 Z.2.1 dX2_read_70 rfl (lv_at hl 0 rfl) ?_
          refine zk_get (C := RX2) (T := TX2) (N := 12) (ci := 2) Z hK G hinX2 0 rfl rfl 10 (by decide) (List.mem_of_getElem? (i := 1) rfl) rfl (v := .int (nI p2)) rfl dX2_read_71 ?_
          refine lv_aload_n Z.1 Z.2.1 dX2_read_74 rfl (lv_at hl 0 rfl) ?_
          refine zk_get (C := RX2) (T := TX2) (N := 12) (ci := 2) Z hK G hinX2 0 rfl rfl 9 (by decide) (List.mem_of_getElem? (i := 4) rfl) rfl (v := .int (nI ln)) rfl dX2_read_75 ?_
          refine lv_icmp_ge (tgt := 89) Z.1 Z.2.1 dX2_read_78 (by decide) (fun c78 => ?_) (fun c78 => ?_)
          · have c78 : ln ≤ p2 := zk_le (by omega) (by omega) c78
            refine lv_aload_n Z.1 Z.2.1 dX2_read_89 rfl (lv_at hl 0 rfl) ?_
            refine zk_get (C := RX2) (T := TX2) (N := 12) (ci := 2) Z hK G hinX2 0 rfl rfl 11 (by decide) (List.mem_of_getElem? (i := 2) rfl) rfl (v := .int (-1)) rfl dX2_read_90 ?_
            refine lv_if_ge (tgt := 100) Z.1 Z.2.1 dX2_read_93 (by decide) (fun c93 => ?_) (fun c93 => ?_)
            · exfalso
              have c93 : 0 ≤ ((-1) : Int32) := c93
              exact absurd c93 (by decide)
            have c93 : ¬ 0 ≤ ((-1) : Int32) := c93
            refine lv_aload_n Z.1 Z.2.1 dX2_read_96 rfl (lv_at hl 0 rfl) ?_
            refine zk_cv (WF := fun (_ : Unit) => [(a 1, .inr (2, [.ref (a 10), .ref (a 11), .ref (a 12), .ref kn, .ref km, .ref kc, .ref kv, .int (nI ns2), .int (nI ns2), .int (nI ln), .int (nI p2), .int (-1)])), (a 11, .inl (g 0, 120, .inl (fun i => nI (tp i)))), (kc, .inl (g 0, 128, .inl (fun i => nI (C i)))), (kv, .inl (g 0, 128, .inl (fun i => nI (X i)))), (kn, .inl (g 0, 128, .inl (fun i => nI (C2 i)))), (km, .inl (g 0, 128, .inl (fun i => nI (X2 i))))]) (wr := [(a 11, .inl (g 0, 120, .inl (fun i => nI (tp i)))), (kc, .inl (g 0, 128, .inl (fun i => nI (C i)))), (kv, .inl (g 0, 128, .inl (fun i => nI (X i)))), (kn, .inl (g 0, 128, .inl (fun i => nI (C2 i)))), (km, .inl (g 0, 128, .inl (fun i => nI (X2 i))))]) ⟨rfl, rfl⟩ (zk_rv (As := []) (rest := []) (q0 := 0) (ci := 2) Z ((ct_X2_takeNewCodes l D g τ a kc kv kn km sz ns2 ln p2 (-1) ) H.size) hK hT hA G [0] rfl (by decide) rfl rfl gX2_read_X2_takeNewCodes rfl dvX2_takeNewCodes ⟨by decide, by decide⟩ rfl hl.1 rfl (Nat.le_of_ble_eq_true rfl) dX2_read_97 ⟨Nat.zero_le _, Nat.zero_le _⟩) hA G [0] [1, 2, 3, 4, 5] [5, 0, 1, 2, 3, 4] rfl rfl (by decide) (by decide) (by decide) (fun _ => rfl) (fun _ H locs w_97 G => ?_)
            have G : zk_G D aA [(a 1, .inr (2, [.ref (a 10), .ref (a 11), .ref (a 12), .ref kn, .ref km, .ref kc, .ref kv, .int (nI ns2), .int (nI ns2), .int (nI ln), .int (nI p2), .int (-1)])), (a 11, .inl (g 0, 120, .inl (fun i => nI (tp i)))), (kn, .inl (g 0, 128, .inl (fun i => nI (C2 i)))), (km, .inl (g 0, 128, .inl (fun i => nI (X2 i)))), (kc, .inl (g 0, 128, .inl (fun i => nI (C i)))), (kv, .inl (g 0, 128, .inl (fun i => nI (X i))))] sS H locs := zk_perm G [0, 1, 4, 5, 2, 3] rfl (by decide)
            refine lv_aload_n Z.1 Z.2.1 dX2_read_100 rfl (lv_at hl 0 rfl) ?_
            refine lv_iconst (v := nI 0) Z.1 Z.2.1 dX2_read_101 (by decide +kernel) ?_
            refine zk_put tyX2 tyX2_ok nmX2 (C := RX2) (T := TX2) (N := 12) (ci := 2) Z hK G hinX2 0 rfl rfl 9 (by decide) (List.mem_of_getElem? (i := 4) rfl) rfl rfl rfl rfl (Nat.le_of_ble_eq_true rfl) (ws' := [(a 1, .inr (2, [.ref (a 10), .ref (a 11), .ref (a 12), .ref kn, .ref km, .ref kc, .ref kv, .int (nI ns2), .int (nI ns2), .int (nI 0), .int (nI p2), .int (-1)])), (a 11, .inl (g 0, 120, .inl (fun i => nI (tp i)))), (kn, .inl (g 0, 128, .inl (fun i => nI (C2 i)))), (km, .inl (g 0, 128, .inl (fun i => nI (X2 i)))), (kc, .inl (g 0, 128, .inl (fun i => nI (C i)))), (kv, .inl (g 0, 128, .inl (fun i => nI (X i))))]) rfl dX2_read_102 (fun H locs G => ?_)
            refine lv_aload_n Z.1 Z.2.1 dX2_read_105 rfl (lv_at hl 0 rfl) ?_
            refine zk_get (C := RX2) (T := TX2) (N := 12) (ci := 2) Z hK G hinX2 0 rfl rfl 11 (by decide) (List.mem_of_getElem? (i := 2) rfl) rfl (v := .int (-1)) rfl dX2_read_106 ?_
            have hL9 : zg_lines tp ln (f9 + 1) p2 (ns2, C2, X2) = .inr (p2, (ns2, C2, X2)) := zg_lines_stop c40 _
            have hR9 : (zg_read tp ln CN XN) = .inr (p2, (ns2, C2, X2)) := by rw [← hs, hL9]; simp only; rw [if_neg (Nat.not_lt.mpr c78)]
            exact zk_reti Z hR_ hlk hK hQ G (kn, km, kc, kv, ns2, ns2, p2, (-1), C2, X2, C, X) ⟨(by rw [hR9]; rfl), (by rw [hR9]; rfl)⟩ rfl dX2_read_109
          have c78 : p2 < ln := zk_nle (by omega) (by omega) c78
          refine lv_aload_n Z.1 Z.2.1 dX2_read_81 rfl (lv_at hl 0 rfl) ?_
          refine lv_aload_n Z.1 Z.2.1 dX2_read_82 rfl (lv_at hl 0 rfl) ?_
          refine zk_get (C := RX2) (T := TX2) (N := 12) (ci := 2) Z hK G hinX2 0 rfl rfl 10 (by decide) (List.mem_of_getElem? (i := 1) rfl) rfl (v := .int (nI p2)) rfl dX2_read_83 ?_
          refine zk_put tyX2 tyX2_ok nmX2 (C := RX2) (T := TX2) (N := 12) (ci := 2) Z hK G hinX2 0 rfl rfl 11 (by decide) (List.mem_of_getElem? (i := 2) rfl) rfl rfl rfl rfl (Nat.le_of_ble_eq_true rfl) (ws' := [(a 1, .inr (2, [.ref (a 10), .ref (a 11), .ref (a 12), .ref kc, .ref kv, .ref kn, .ref km, .int (nI sz), .int (nI ns2), .int (nI ln), .int (nI p2), .int (nI p2)])), (a 11, .inl (g 0, 120, .inl (fun i => nI (tp i)))), (kc, .inl (g 0, 128, .inl (fun i => nI (C i)))), (kv, .inl (g 0, 128, .inl (fun i => nI (X i)))), (kn, .inl (g 0, 128, .inl (fun i => nI (C2 i)))), (km, .inl (g 0, 128, .inl (fun i => nI (X2 i))))]) rfl dX2_read_86 (fun H locs G => ?_)
          refine lv_aload_n Z.1 Z.2.1 dX2_read_89 rfl (lv_at hl 0 rfl) ?_
          refine zk_get (C := RX2) (T := TX2) (N := 12) (ci := 2) Z hK G hinX2 0 rfl rfl 11 (by decide) (List.mem_of_getElem? (i := 2) rfl) rfl (v := .int (nI p2)) rfl dX2_read_90 ?_
          refine lv_if_ge (tgt := 100) Z.1 Z.2.1 dX2_read_93 (by decide) (fun c93 => ?_) (fun c93 => ?_)
          · have c93 : 0 ≤ p2 := zk_le (by omega) (by omega) c93
            refine lv_aload_n Z.1 Z.2.1 dX2_read_100 rfl (lv_at hl 0 rfl) ?_
            refine lv_iconst (v := nI 0) Z.1 Z.2.1 dX2_read_101 (by decide +kernel) ?_
            refine zk_put tyX2 tyX2_ok nmX2 (C := RX2) (T := TX2) (N := 12) (ci := 2) Z hK G hinX2 0 rfl rfl 9 (by decide) (List.mem_of_getElem? (i := 4) rfl) rfl rfl rfl rfl (Nat.le_of_ble_eq_true rfl) (ws' := [(a 1, .inr (2, [.ref (a 10), .ref (a 11), .ref (a 12), .ref kc, .ref kv, .ref kn, .ref km, .int (nI sz), .int (nI ns2), .int (nI 0), .int (nI p2), .int (nI p2)])), (a 11, .inl (g 0, 120, .inl (fun i => nI (tp i)))), (kc, .inl (g 0, 128, .inl (fun i => nI (C i)))), (kv, .inl (g 0, 128, .inl (fun i => nI (X i)))), (kn, .inl (g 0, 128, .inl (fun i => nI (C2 i)))), (km, .inl (g 0, 128, .inl (fun i => nI (X2 i))))]) rfl dX2_read_102 (fun H locs G => ?_)
            refine lv_aload_n Z.1 Z.2.1 dX2_read_105 rfl (lv_at hl 0 rfl) ?_
            refine zk_get (C := RX2) (T := TX2) (N := 12) (ci := 2) Z hK G hinX2 0 rfl rfl 11 (by decide) (List.mem_of_getElem? (i := 2) rfl) rfl (v := .int (nI p2)) rfl dX2_read_106 ?_
            have hL9 : zg_lines tp ln (f9 + 1) p2 (ns2, C2, X2) = .inr (p2, (ns2, C2, X2)) := zg_lines_stop c40 _
            have hR9 : (zg_read tp ln CN XN) = .inl p2 := by rw [← hs, hL9]; simp only; rw [if_pos c78]
            exact zk_reti Z hR_ hlk hK hQ G (kc, kv, kn, km, sz, ns2, p2, nI p2, C, X, C2, X2) ⟨(by rw [hR9]; rfl), (by rw [hR9]; exact ⟨rfl, rfl, rfl⟩)⟩ rfl dX2_read_109
          exfalso
          have c93 : p2 < 0 := zk_nle (by omega) (by omega) c93
          omega
        have c40 : zg_c tp ln p2 = 59 := (zg_l_eq ht (by decide) (by decide)).mp c40
        have hp4 : p2 < ln := zg_c_lt (tp := tp) (by omega)
        refine lv_aload_n Z.1 Z.2.1 dX2_read_43 rfl (lv_at hl 0 rfl) ?_
        refine lv_dup Z.1 Z.2.1 dX2_read_44 rfl ?_
        refine zk_get (C := RX2) (T := TX2) (N := 12) (ci := 2) Z hK G hinX2 0 rfl rfl 10 (by decide) (List.mem_of_getElem? (i := 1) rfl) rfl (v := .int (nI p2)) rfl dX2_read_45 ?_
        refine lv_iconst (v := nI 1) Z.1 Z.2.1 dX2_read_48 (by decide +kernel) ?_
        refine zk_iadd Z dX2_read_49 (z := nI (p2 + 1)) (nI_add _ _) ?_
        refine zk_put tyX2 tyX2_ok nmX2 (C := RX2) (T := TX2) (N := 12) (ci := 2) Z hK G hinX2 0 rfl rfl 10 (by decide) (List.mem_of_getElem? (i := 1) rfl) rfl rfl rfl rfl (Nat.le_of_ble_eq_true rfl) (ws' := [(a 1, .inr (2, [.ref (a 10), .ref (a 11), .ref (a 12), .ref kc, .ref kv, .ref kn, .ref km, .int (nI sz), .int (nI ns2), .int (nI ln), .int (nI (p2 + 1)), .int (-1)])), (a 11, .inl (g 0, 120, .inl (fun i => nI (tp i)))), (kc, .inl (g 0, 128, .inl (fun i => nI (C i)))), (kv, .inl (g 0, 128, .inl (fun i => nI (X i)))), (kn, .inl (g 0, 128, .inl (fun i => nI (C2 i)))), (km, .inl (g 0, 128, .inl (fun i => nI (X2 i))))]) rfl dX2_read_50 (fun H locs G => ?_)
        refine lv_aload_n Z.1 Z.2.1 dX2_read_53 rfl (lv_at hl 0 rfl) ?_
        refine zk_cv (WF := fun uu => [(a 1, .inr (2, [.ref (a 10), .ref (a 11), .ref (a 12), .ref kc, .ref kv, .ref kn, .ref km, .int (nI sz), .int (nI uu.2.2.1), .int (nI ln), .int (nI uu.1), .int uu.2.1])), (a 11, .inl (g 0, 120, .inl (fun i => nI (tp i)))), (kc, .inl (g 0, 128, .inl (fun i => nI (C i)))), (kv, .inl (g 0, 128, .inl (fun i => nI (X i)))), (kn, .inl (g 0, 128, .inl (fun i => nI (uu.2.2.2.1 i)))), (km, .inl (g 0, 128, .inl (fun i => nI (uu.2.2.2.2 i))))]) (wr := [(kc, .inl (g 0, 128, .inl (fun i => nI (C i)))), (kv, .inl (g 0, 128, .inl (fun i => nI (X i))))]) ⟨rfl, rfl⟩ (zk_rv (As := []) (rest := []) (q0 := 0) (ci := 2) Z ((ct_X2_readLine l D g τ a kc kv kn km sz ns2 ln (p2 + 1) tp C2 X2 (by exact hln) (by omega) (by exact ht) (by exact hn2)) H.size) hK hT hA G [0, 1, 4, 5] rfl (by decide) rfl rfl gX2_read_X2_readLine rfl dvX2_readLine ⟨by decide, by decide⟩ rfl hl.1 rfl (Nat.le_of_ble_eq_true rfl) dX2_read_54 ⟨Nat.zero_le _, Nat.zero_le _⟩) hA G [0, 1, 4, 5] [2, 3] [2, 3, 0, 1, 4, 5] rfl rfl (by decide) (by decide) (by decide) (fun _ => rfl) (fun uu H locs w_54 G => ?_)
        obtain ⟨p1_54, ft1_54, ns1_54, C1_54, X1_54⟩ := uu
        have G : zk_G D aA [(a 1, .inr (2, [.ref (a 10), .ref (a 11), .ref (a 12), .ref kc, .ref kv, .ref kn, .ref km, .int (nI sz), .int (nI ns1_54), .int (nI ln), .int (nI p1_54), .int ft1_54])), (a 11, .inl (g 0, 120, .inl (fun i => nI (tp i)))), (kc, .inl (g 0, 128, .inl (fun i => nI (C i)))), (kv, .inl (g 0, 128, .inl (fun i => nI (X i)))), (kn, .inl (g 0, 128, .inl (fun i => nI (C1_54 i)))), (km, .inl (g 0, 128, .inl (fun i => nI (X1_54 i))))] sS H locs := G
        have zb_54 := zg_line_in (tp := tp) (ln := ln) (p := p2 + 1) (s := (ns2, C2, X2)) ht (by omega)
        obtain ⟨w_54, hns_54⟩ := w_54
        have hns_54 : ns1_54 ≤ 128 := hns_54
        rcases hz_54 : zg_line tp ln (p2 + 1) (ns2, C2, X2) with e | ⟨a9, n9, C9, X9⟩
        · obtain ⟨h1_54, h2_54⟩ := zg_pl w_54 hz_54
          obtain rfl : p1_54 = e := h1_54
          obtain rfl : ft1_54 = nI p1_54 := h2_54
          have hb_54 := zb_54
          rw [hz_54] at hb_54
          have hp_54 : p1_54 ≤ ln := hb_54.2
          refine lv_iinc (v := nI (k1 + 1)) (lv' := [(1, .int (nI (k1 + 1))), (0, .ref (a 1))]) Z.1 Z.2.1 dX2_read_57 hl (k := 1) rfl (zk_inc k1 1) (by decide) rfl (fun ls hl => ?_)
          refine lv_goto (tgt := 21) Z.1 Z.2.1 dX2_read_60 (by decide) ?_
          refine lv_iload_n Z.1 Z.2.1 dX2_read_21 rfl (lv_at hl 0 rfl) ?_
          refine lv_bipush (v := nI 120) Z.1 Z.2.1 dX2_read_22 (by decide +kernel) ?_
          refine lv_icmp_ge (tgt := 63) Z.1 Z.2.1 dX2_read_24 (by decide) (fun c24 => ?_) (fun c24 => ?_)
          · have c24 : 120 ≤ k1 + 1 := zk_le (by omega) (by omega) c24
            refine lv_aload_n Z.1 Z.2.1 dX2_read_63 rfl (lv_at hl 1 rfl) ?_
            refine zk_get (C := RX2) (T := TX2) (N := 12) (ci := 2) Z hK G hinX2 0 rfl rfl 11 (by decide) (List.mem_of_getElem? (i := 2) rfl) rfl (v := .int (nI p1_54)) rfl dX2_read_64 ?_
            refine lv_if_ge (tgt := 89) Z.1 Z.2.1 dX2_read_67 (by decide) (fun c67 => ?_) (fun c67 => ?_)
            · have c67 : 0 ≤ p1_54 := zk_le (by omega) (by omega) c67
              refine lv_aload_n Z.1 Z.2.1 dX2_read_89 rfl (lv_at hl 1 rfl) ?_
              refine zk_get (C := RX2) (T := TX2) (N := 12) (ci := 2) Z hK G hinX2 0 rfl rfl 11 (by decide) (List.mem_of_getElem? (i := 2) rfl) rfl (v := .int (nI p1_54)) rfl dX2_read_90 ?_
              refine lv_if_ge (tgt := 100) Z.1 Z.2.1 dX2_read_93 (by decide) (fun c93 => ?_) (fun c93 => ?_)
              · have c93 : 0 ≤ p1_54 := zk_le (by omega) (by omega) c93
                refine lv_aload_n Z.1 Z.2.1 dX2_read_100 rfl (lv_at hl 1 rfl) ?_
                refine lv_iconst (v := nI 0) Z.1 Z.2.1 dX2_read_101 (by decide +kernel) ?_
                refine zk_put tyX2 tyX2_ok nmX2 (C := RX2) (T := TX2) (N := 12) (ci := 2) Z hK G hinX2 0 rfl rfl 9 (by decide) (List.mem_of_getElem? (i := 4) rfl) rfl rfl rfl rfl (Nat.le_of_ble_eq_true rfl) (ws' := [(a 1, .inr (2, [.ref (a 10), .ref (a 11), .ref (a 12), .ref kc, .ref kv, .ref kn, .ref km, .int (nI sz), .int (nI ns1_54), .int (nI 0), .int (nI p1_54), .int (nI p1_54)])), (a 11, .inl (g 0, 120, .inl (fun i => nI (tp i)))), (kc, .inl (g 0, 128, .inl (fun i => nI (C i)))), (kv, .inl (g 0, 128, .inl (fun i => nI (X i)))), (kn, .inl (g 0, 128, .inl (fun i => nI (C1_54 i)))), (km, .inl (g 0, 128, .inl (fun i => nI (X1_54 i))))]) rfl dX2_read_102 (fun H locs G => ?_)
                refine lv_aload_n Z.1 Z.2.1 dX2_read_105 rfl (lv_at hl 1 rfl) ?_
                refine zk_get (C := RX2) (T := TX2) (N := 12) (ci := 2) Z hK G hinX2 0 rfl rfl 11 (by decide) (List.mem_of_getElem? (i := 2) rfl) rfl (v := .int (nI p1_54)) rfl dX2_read_106 ?_
                have hR9 : (zg_read tp ln CN XN) = .inl p1_54 := by rw [← hs]; simp only [zg_lines]; rw [if_pos c40, hz_54]
                exact zk_reti Z hR_ hlk hK hQ G (kc, kv, kn, km, sz, ns1_54, p1_54, nI p1_54, C, X, C1_54, X1_54) ⟨(by rw [hR9]; rfl), (by rw [hR9]; exact ⟨rfl, rfl, rfl⟩)⟩ rfl dX2_read_109
              exfalso
              have c93 : p1_54 < 0 := zk_nle (by omega) (by omega) c93
              omega
            exfalso
            have c67 : p1_54 < 0 := zk_nle (by omega) (by omega) c67
            omega
          have c24 : k1 + 1 < 120 := zk_nle (by omega) (by omega) c24
          refine lv_aload_n Z.1 Z.2.1 dX2_read_27 rfl (lv_at hl 1 rfl) ?_
          refine zk_get (C := RX2) (T := TX2) (N := 12) (ci := 2) Z hK G hinX2 0 rfl rfl 11 (by decide) (List.mem_of_getElem? (i := 2) rfl) rfl (v := .int (nI p1_54)) rfl dX2_read_28 ?_
          refine lv_if_ge (tgt := 63) Z.1 Z.2.1 dX2_read_31 (by decide) (fun c31 => ?_) (fun c31 => ?_)
          · have c31 : 0 ≤ p1_54 := zk_le (by omega) (by omega) c31
            refine lv_aload_n Z.1 Z.2.1 dX2_read_63 rfl (lv_at hl 1 rfl) ?_
            refine zk_get (C := RX2) (T := TX2) (N := 12) (ci := 2) Z hK G hinX2 0 rfl rfl 11 (by decide) (List.mem_of_getElem? (i := 2) rfl) rfl (v := .int (nI p1_54)) rfl dX2_read_64 ?_
            refine lv_if_ge (tgt := 89) Z.1 Z.2.1 dX2_read_67 (by decide) (fun c67 => ?_) (fun c67 => ?_)
            · have c67 : 0 ≤ p1_54 := zk_le (by omega) (by omega) c67
              refine lv_aload_n Z.1 Z.2.1 dX2_read_89 rfl (lv_at hl 1 rfl) ?_
              refine zk_get (C := RX2) (T := TX2) (N := 12) (ci := 2) Z hK G hinX2 0 rfl rfl 11 (by decide) (List.mem_of_getElem? (i := 2) rfl) rfl (v := .int (nI p1_54)) rfl dX2_read_90 ?_
              refine lv_if_ge (tgt := 100) Z.1 Z.2.1 dX2_read_93 (by decide) (fun c93 => ?_) (fun c93 => ?_)
              · have c93 : 0 ≤ p1_54 := zk_le (by omega) (by omega) c93
                refine lv_aload_n Z.1 Z.2.1 dX2_read_100 rfl (lv_at hl 1 rfl) ?_
                refine lv_iconst (v := nI 0) Z.1 Z.2.1 dX2_read_101 (by decide +kernel) ?_
                refine zk_put tyX2 tyX2_ok nmX2 (C := RX2) (T := TX2) (N := 12) (ci := 2) Z hK G hinX2 0 rfl rfl 9 (by decide) (List.mem_of_getElem? (i := 4) rfl) rfl rfl rfl rfl (Nat.le_of_ble_eq_true rfl) (ws' := [(a 1, .inr (2, [.ref (a 10), .ref (a 11), .ref (a 12), .ref kc, .ref kv, .ref kn, .ref km, .int (nI sz), .int (nI ns1_54), .int (nI 0), .int (nI p1_54), .int (nI p1_54)])), (a 11, .inl (g 0, 120, .inl (fun i => nI (tp i)))), (kc, .inl (g 0, 128, .inl (fun i => nI (C i)))), (kv, .inl (g 0, 128, .inl (fun i => nI (X i)))), (kn, .inl (g 0, 128, .inl (fun i => nI (C1_54 i)))), (km, .inl (g 0, 128, .inl (fun i => nI (X1_54 i))))]) rfl dX2_read_102 (fun H locs G => ?_)
                refine lv_aload_n Z.1 Z.2.1 dX2_read_105 rfl (lv_at hl 1 rfl) ?_
                refine zk_get (C := RX2) (T := TX2) (N := 12) (ci := 2) Z hK G hinX2 0 rfl rfl 11 (by decide) (List.mem_of_getElem? (i := 2) rfl) rfl (v := .int (nI p1_54)) rfl dX2_read_106 ?_
                have hR9 : (zg_read tp ln CN XN) = .inl p1_54 := by rw [← hs]; simp only [zg_lines]; rw [if_pos c40, hz_54]
                exact zk_reti Z hR_ hlk hK hQ G (kc, kv, kn, km, sz, ns1_54, p1_54, nI p1_54, C, X, C1_54, X1_54) ⟨(by rw [hR9]; rfl), (by rw [hR9]; exact ⟨rfl, rfl, rfl⟩)⟩ rfl dX2_read_109
              exfalso
              have c93 : p1_54 < 0 := zk_nle (by omega) (by omega) c93
              omega
            exfalso
            have c67 : p1_54 < 0 := zk_nle (by omega) (by omega) c67
            omega
          exfalso
          have c31 : p1_54 < 0 := zk_nle (by omega) (by omega) c31
          omega
        · obtain ⟨h1_54, h2_54, h3_54⟩ := zg_pr w_54 hz_54
          obtain rfl : p1_54 = a9 := h1_54
          obtain rfl : ft1_54 = -1 := h2_54
          obtain ⟨rfl, rfl, rfl⟩ : ns1_54 = n9 ∧ C1_54 = C9 ∧ X1_54 = X9 := by
            have h4 := h3_54
            simp only [Prod.mk.injEq] at h4
            exact h4
          have hb_54 := zb_54
          rw [hz_54] at hb_54
          have hp_54 : p1_54 ≤ ln := hb_54.2
          refine lv_iinc (v := nI (k1 + 1)) (lv' := [(1, .int (nI (k1 + 1))), (0, .ref (a 1))]) Z.1 Z.2.1 dX2_read_57 hl (k := 1) rfl (zk_inc k1 1) (by decide) rfl (fun ls hl => ?_)
          refine lv_goto (tgt := 21) Z.1 Z.2.1 dX2_read_60 (by decide) ?_
          exact ih21 (k1 + 1) f9 p1_54 ns1_54 C1_54 X1_54 (by omega) (by omega) (by omega) (by exact hp_54) (by exact hns_54) (by simp only [zg_lines] at hs; rw [if_pos c40, hz_54] at hs; exact hs) _ _ _ G (lv_sub hl [1, 0] rfl)
    exact L21 _ 1 119 p1_16 ns1_16 C1_16 X1_16 (Nat.lt_succ_self _) (by omega) (by omega) (by exact hp_16) (by exact hns_16) (by unfold zg_read; rw [hz_16]) _ _ _ G (lv_sub hl [1, 0] rfl)

abbrev rm_X2_take : Room := { frames := 0, cells := 0, slots := 0, locals := 0 }
theorem dvX2_take : zk_dv yX2_take RX2 1 := by decide +kernel
set_option maxRecDepth 100000 in
set_option maxHeartbeats 1500000 in
theorem ct_X2_take (l : Launch) (D : va_G) (g : Nat → ClassId) (τ : Nat → Nat) (a : Nat → Nat) (kc : Nat) (kv : Nat) (kn : Nat) (km : Nat) (sz : Nat) (ns : Int32) (ln : Nat) (at1 : Int32) (ft : Int32) (tp : Nat → Nat) (x : Nat) (hln : ln ≤ 120) : zk_MI l D g τ yX2_take wsX2_take rm_X2_take [.ref (a 1), .int (nI x)] [(a 1, .inr (2, [.ref (a 10), .ref (a 11), .ref (a 12), .ref kc, .ref kv, .ref kn, .ref km, .int (nI sz), .int ns, .int (nI ln), .int at1, .int ft])), (a 11, .inl (g 0, 120, .inl (fun i => nI (tp i))))] (fun (r : Int32) (_ : Unit) => r = zk_b (decide (ln < 120))) (fun (_ : Unit) => [(a 1, .inr (2, [.ref (a 10), .ref (a 11), .ref (a 12), .ref kc, .ref kv, .ref kn, .ref km, .int (nI sz), .int ns, .int (nI (if ln < 120 then ln + 1 else ln)), .int at1, .int ft])), (a 11, .inl (g 0, 120, .inl (fun i => nI ((if ln < 120 then zs_up tp ln x else tp) i))))]) := by
  refine zk_of (Qc := fun A => va_Qi (fun (r : Int32) (_ : Unit) => r = zk_b (decide (ln < 120))) (zk_B D g A (fun (_ : Unit) => [(a 1, .inr (2, [.ref (a 10), .ref (a 11), .ref (a 12), .ref kc, .ref kv, .ref kn, .ref km, .int (nI sz), .int ns, .int (nI (if ln < 120 then ln + 1 else ln)), .int at1, .int ft])), (a 11, .inl (g 0, 120, .inl (fun i => nI ((if ln < 120 then zs_up tp ln x else tp) i))))])) A) (cc := cX2_take) (maxL := 2) (ret := (some .boolean)) (own := RX2) (by decide) rfl rfl (Nat.le_of_ble_eq_true rfl) ?_
  intro pP eE sS mM args below meth cC aA ls qQ Z hR_ hlk hnm hK hT hA hQ G hl
  have hinX2 : ∀ w ∈ u_ws RX2 TX2 12, w ∈ wsX2_take := (fun _ h => List.mem_cons_of_mem _ (List.mem_append_right _ h))
  refine lv_aload_n Z.1 Z.2.1 dX2_take_0 rfl (lv_at hl 0 rfl) ?_
  refine zk_get (C := RX2) (T := TX2) (N := 12) (ci := 2) Z hK G hinX2 0 rfl rfl 9 (by decide) (List.mem_of_getElem? (i := 1) rfl) rfl (v := .int (nI ln)) rfl dX2_take_1 ?_
  refine lv_bipush (v := nI 120) Z.1 Z.2.1 dX2_take_4 (by decide +kernel) ?_
  refine lv_icmp_lt (tgt := 11) Z.1 Z.2.1 dX2_take_6 (by decide) (fun c6 => ?_) (fun c6 => ?_)
  · have c6 : ln < 120 := zk_lt (by omega) (by omega) c6
    refine lv_aload_n Z.1 Z.2.1 dX2_take_11 rfl (lv_at hl 0 rfl) ?_
    refine zk_get (C := RX2) (T := TX2) (N := 12) (ci := 2) Z hK G hinX2 0 rfl rfl 1 (by decide) (List.mem_of_getElem? (i := 2) rfl) rfl (v := .ref (a 11)) rfl dX2_take_12 ?_
    refine lv_aload_n Z.1 Z.2.1 dX2_take_15 rfl (lv_at hl 0 rfl) ?_
    refine zk_get (C := RX2) (T := TX2) (N := 12) (ci := 2) Z hK G hinX2 0 rfl rfl 9 (by decide) (List.mem_of_getElem? (i := 1) rfl) rfl (v := .int (nI ln)) rfl dX2_take_16 ?_
    refine lv_iload_n Z.1 Z.2.1 dX2_take_19 rfl (lv_at hl 1 rfl) ?_
    refine zk_iast Z hK G 1 rfl (k := ln) (by omega) (by decide) (zs_up_n _ _ _) (ws' := [(a 1, .inr (2, [.ref (a 10), .ref (a 11), .ref (a 12), .ref kc, .ref kv, .ref kn, .ref km, .int (nI sz), .int ns, .int (nI ln), .int at1, .int ft])), (a 11, .inl (g 0, 120, .inl (fun i => nI (zs_up tp ln x i))))]) rfl dX2_take_20 (fun H locs G => ?_)
    refine lv_aload_n Z.1 Z.2.1 dX2_take_21 rfl (lv_at hl 0 rfl) ?_
    refine lv_dup Z.1 Z.2.1 dX2_take_22 rfl ?_
    refine zk_get (C := RX2) (T := TX2) (N := 12) (ci := 2) Z hK G hinX2 0 rfl rfl 9 (by decide) (List.mem_of_getElem? (i := 1) rfl) rfl (v := .int (nI ln)) rfl dX2_take_23 ?_
    refine lv_iconst (v := nI 1) Z.1 Z.2.1 dX2_take_26 (by decide +kernel) ?_
    refine zk_iadd Z dX2_take_27 (z := nI (ln + 1)) (nI_add _ _) ?_
    refine zk_put tyX2 tyX2_ok nmX2 (C := RX2) (T := TX2) (N := 12) (ci := 2) Z hK G hinX2 0 rfl rfl 9 (by decide) (List.mem_of_getElem? (i := 1) rfl) rfl rfl rfl rfl (Nat.le_of_ble_eq_true rfl) (ws' := [(a 1, .inr (2, [.ref (a 10), .ref (a 11), .ref (a 12), .ref kc, .ref kv, .ref kn, .ref km, .int (nI sz), .int ns, .int (nI (ln + 1)), .int at1, .int ft])), (a 11, .inl (g 0, 120, .inl (fun i => nI (zs_up tp ln x i))))]) rfl dX2_take_28 (fun H locs G => ?_)
    refine lv_iconst (v := nI 1) Z.1 Z.2.1 dX2_take_31 (by decide +kernel) ?_
    refine W.eq (g2 := F0 mM 32 ls [.int (zk_b true)]) rfl ?_
    exact zk_retz Z hR_ hlk hK hQ G () (congrArg zk_b (decide_eq_true c6).symm) (by rw [if_pos c6, if_pos c6]) dX2_take_32
  have c6 : 120 ≤ ln := zk_nlt (by omega) (by omega) c6
  refine lv_iconst (v := nI 0) Z.1 Z.2.1 dX2_take_9 (by decide +kernel) ?_
  refine W.eq (g2 := F0 mM 10 ls [.int (zk_b false)]) rfl ?_
  exact zk_retz Z hR_ hlk hK hQ G () (congrArg zk_b (decide_eq_false (Nat.not_lt.mpr c6)).symm) (by rw [if_neg (Nat.not_lt.mpr c6), if_neg (Nat.not_lt.mpr c6)]) dX2_take_10

abbrev rm_X7_feed : Room := { frames := 1, cells := 0, slots := 0, locals := 21 }
theorem dvX7_feed : zk_dv yX7_feed RX7 1 := by decide +kernel
set_option maxRecDepth 100000 in
set_option maxHeartbeats 1500000 in
theorem ct_X7_feed (l : Launch) (D : va_G) (g : Nat → ClassId) (τ : Nat → Nat) (a : Nat → Nat) (pic : Bool) (storm : Nat) (chance : Int32) (kc : Nat) (kv : Nat) (kn : Nat) (km : Nat) (sz : Nat) (ns : Int32) (ln : Nat) (at1 : Int32) (ft : Int32) (tp : Nat → Nat) (x : Int32) (hln : ln ≤ 120) : zk_MI l D g τ yX7_feed wsX7_feed rm_X7_feed [.ref (a 0), .int x] [(a 0, .inr (7, [.ref (a 1), .ref (a 2), .ref (a 3), .ref (a 4), .ref (a 50), .ref (a 60), .ref (a 7), .ref (a 8), .int (zk_b pic), .int (nI storm), .int chance])), (a 1, .inr (2, [.ref (a 10), .ref (a 11), .ref (a 12), .ref kc, .ref kv, .ref kn, .ref km, .int (nI sz), .int ns, .int (nI ln), .int at1, .int ft])), (a 11, .inl (g 0, 120, .inl (fun i => nI (tp i))))] (fun (r : Int32) (_ : Unit) => r = zu_feed ln x) (fun (_ : Unit) => [(a 0, .inr (7, [.ref (a 1), .ref (a 2), .ref (a 3), .ref (a 4), .ref (a 50), .ref (a 60), .ref (a 7), .ref (a 8), .int (zk_b pic), .int (nI storm), .int chance])), (a 1, .inr (2, [.ref (a 10), .ref (a 11), .ref (a 12), .ref kc, .ref kv, .ref kn, .ref km, .int (nI sz), .int ns, .int (nI (if (zb_w 256 x && decide (ln < 120)) = true then ln + 1 else ln)), .int at1, .int ft])), (a 11, .inl (g 0, 120, .inl (fun i => nI ((if (zb_w 256 x && decide (ln < 120)) = true then zs_up tp ln x.toInt.toNat else tp) i))))]) := by
  refine zk_of (Qc := fun A => va_Qi (fun (r : Int32) (_ : Unit) => r = zu_feed ln x) (zk_B D g A (fun (_ : Unit) => [(a 0, .inr (7, [.ref (a 1), .ref (a 2), .ref (a 3), .ref (a 4), .ref (a 50), .ref (a 60), .ref (a 7), .ref (a 8), .int (zk_b pic), .int (nI storm), .int chance])), (a 1, .inr (2, [.ref (a 10), .ref (a 11), .ref (a 12), .ref kc, .ref kv, .ref kn, .ref km, .int (nI sz), .int ns, .int (nI (if (zb_w 256 x && decide (ln < 120)) = true then ln + 1 else ln)), .int at1, .int ft])), (a 11, .inl (g 0, 120, .inl (fun i => nI ((if (zb_w 256 x && decide (ln < 120)) = true then zs_up tp ln x.toInt.toNat else tp) i))))])) A) (cc := cX7_feed) (maxL := 2) (ret := (some .int)) (own := RX7) (by decide) rfl rfl (Nat.le_of_ble_eq_true rfl) ?_
  intro pP eE sS mM args below meth cC aA ls qQ Z hR_ hlk hnm hK hT hA hQ G hl
  have hinX2 : ∀ w ∈ u_ws RX2 TX2 12, w ∈ wsX7_feed := (fun _ h => List.mem_cons_of_mem _ (List.mem_append_right _ h))
  have hinX7 : ∀ w ∈ u_ws RX7 TX7 11, w ∈ wsX7_feed := (fun _ h => List.mem_cons_of_mem _ (List.mem_append_left _ (List.mem_append_right _ h)))
  refine lv_iload_n Z.1 Z.2.1 dX7_feed_0 rfl (lv_at hl 1 rfl) ?_
  refine lv_if_lt (tgt := 11) Z.1 Z.2.1 dX7_feed_1 (by decide) (fun c1 => ?_) (fun c1 => ?_)
  · have c1 : x < 0 := c1
    refine lv_iconst (v := (-1)) Z.1 Z.2.1 dX7_feed_11 (by decide +kernel) ?_
    have hk9 : zb_w 256 x = false := zb_w_neg c1
    exact zk_reti Z hR_ hlk hK hQ G () (by unfold zu_feed; rw [hk9]; rfl) (by rw [if_neg (show ¬ (zb_w 256 (x) && decide (ln < 120)) = true by rw [hk9]; simp), if_neg (show ¬ (zb_w 256 (x) && decide (ln < 120)) = true by rw [hk9]; simp)]) dX7_feed_12
  have c1 : ¬ x < 0 := c1
  obtain ⟨j, hj, rfl⟩ := nI_of c1
  refine lv_iload_n Z.1 Z.2.1 dX7_feed_4 rfl (lv_at hl 1 rfl) ?_
  refine lv_sipush (v := nI 255) Z.1 Z.2.1 dX7_feed_5 (by decide +kernel) ?_
  refine lv_icmp_le (tgt := 13) Z.1 Z.2.1 dX7_feed_8 (by decide) (fun c8 => ?_) (fun c8 => ?_)
  · have c8 : j ≤ 255 := zk_le (by omega) (by omega) c8
    refine lv_aload_n Z.1 Z.2.1 dX7_feed_13 rfl (lv_at hl 0 rfl) ?_
    refine zk_get (C := RX7) (T := TX7) (N := 11) (ci := 7) Z hK G hinX7 0 rfl rfl 0 (by decide) (List.mem_of_getElem? (i := 1) rfl) rfl (v := .ref (a 1)) rfl dX7_feed_14 ?_
    refine lv_iload_n Z.1 Z.2.1 dX7_feed_17 rfl (lv_at hl 1 rfl) ?_
    refine zk_ci (WF := fun (_ : Unit) => [(a 0, .inr (7, [.ref (a 1), .ref (a 2), .ref (a 3), .ref (a 4), .ref (a 50), .ref (a 60), .ref (a 7), .ref (a 8), .int (zk_b pic), .int (nI storm), .int chance])), (a 1, .inr (2, [.ref (a 10), .ref (a 11), .ref (a 12), .ref kc, .ref kv, .ref kn, .ref km, .int (nI sz), .int ns, .int (nI (if ln < 120 then ln + 1 else ln)), .int at1, .int ft])), (a 11, .inl (g 0, 120, .inl (fun i => nI ((if ln < 120 then zs_up tp ln j else tp) i))))]) (wr := [(a 0, .inr (7, [.ref (a 1), .ref (a 2), .ref (a 3), .ref (a 4), .ref (a 50), .ref (a 60), .ref (a 7), .ref (a 8), .int (zk_b pic), .int (nI storm), .int chance]))]) ⟨rfl, rfl⟩ (zk_rv (As := [.int (nI j)]) (rest := []) (q0 := 1) (ci := 2) Z ((ct_X2_take l D g τ a kc kv kn km sz ns ln at1 ft tp j (by exact hln)) sS.heap.size) hK hT hA G [1, 2] rfl (by decide) rfl rfl gX7_feed_X2_take rfl dvX2_take ⟨by decide, by decide⟩ rfl hl.1 rfl (Nat.le_of_ble_eq_true rfl) dX7_feed_18 ⟨Nat.zero_le _, Nat.zero_le _⟩) hA G [1, 2] [0] [0, 1, 2] rfl rfl (by decide) (by decide) (by decide) (fun _ => rfl) (fun r_18 _ H locs w_18 G => ?_)
    obtain rfl : r_18 = zk_b (decide (ln < 120)) := w_18
    refine lv_if_eq (tgt := 34) Z.1 Z.2.1 dX7_feed_21 (by decide) (fun c21 => ?_) (fun c21 => ?_)
    · have c21 : (decide (ln < 120)) = false := zk_b0.mp c21
      refine lv_bipush (v := (-3)) Z.1 Z.2.1 dX7_feed_34 (by decide +kernel) ?_
      have hk9 : zb_w 256 (nI j) = true := by rw [zb_w_n hj]; exact decide_eq_true (by omega)
      have c22 : ¬ ln < 120 := of_decide_eq_false c21
      exact zk_reti Z hR_ hlk hK hQ G () (by unfold zu_feed; rw [hk9, if_pos rfl, if_neg c22]) (by rw [hk9, decide_eq_false c22]; rw [if_neg c22, if_neg c22]; rfl) dX7_feed_36
    have c21 : (decide (ln < 120)) = true := zk_b1.mp c21
    have c22_ : ln < 120 := of_decide_eq_true c21
    have G : zk_G D aA [(a 0, .inr (7, [.ref (a 1), .ref (a 2), .ref (a 3), .ref (a 4), .ref (a 50), .ref (a 60), .ref (a 7), .ref (a 8), .int (zk_b pic), .int (nI storm), .int chance])), (a 1, .inr (2, [.ref (a 10), .ref (a 11), .ref (a 12), .ref kc, .ref kv, .ref kn, .ref km, .int (nI sz), .int ns, .int (nI (ln + 1)), .int at1, .int ft])), (a 11, .inl (g 0, 120, .inl (fun i => nI (zs_up tp ln j i))))] sS H locs := (by rw [if_pos c22_, if_pos c22_] at G; exact G)
    refine lv_aload_n Z.1 Z.2.1 dX7_feed_24 rfl (lv_at hl 0 rfl) ?_
    refine zk_get (C := RX7) (T := TX7) (N := 11) (ci := 7) Z hK G hinX7 0 rfl rfl 0 (by decide) (List.mem_of_getElem? (i := 1) rfl) rfl (v := .ref (a 1)) rfl dX7_feed_25 ?_
    refine va_getN Z.1 Z.2.1 Z.2.2.2.2 hinX2 Z.2.2.2.1 hK G.1 1 (ci := 2) (C := RX2) (T := TX2) (N := 12) rfl rfl 9 (by decide) (va_Nw.use rfl hT.2.2.2.2.2.2.1) (fun _ h => h) (v := .int (nI (ln + 1))) rfl dX7_feed_28 ?_
    refine lv_goto (tgt := 36) Z.1 Z.2.1 dX7_feed_31 (by decide) ?_
    have hk9 : zb_w 256 (nI j) = true := by rw [zb_w_n hj]; exact decide_eq_true (by omega)
    have c22 : ln < 120 := of_decide_eq_true c21
    exact zk_reti Z hR_ hlk hK hQ G () (by unfold zu_feed; rw [hk9, if_pos rfl, if_pos c22]) (by rw [hk9, decide_eq_true c22, zb_nat hj]; rfl) dX7_feed_36
  have c8 : 255 < j := zk_nle (by omega) (by omega) c8
  refine lv_iconst (v := (-1)) Z.1 Z.2.1 dX7_feed_11 (by decide +kernel) ?_
  have hk9 : zb_w 256 (nI j) = false := by rw [zb_w_n hj]; exact decide_eq_false (by omega)
  exact zk_reti Z hR_ hlk hK hQ G () (by unfold zu_feed; rw [hk9]; rfl) (by rw [if_neg (show ¬ (zb_w 256 (nI j) && decide (ln < 120)) = true by rw [hk9]; simp), if_neg (show ¬ (zb_w 256 (nI j) && decide (ln < 120)) = true by rw [hk9]; simp)]) dX7_feed_12

theorem zg_read_in {tp : Nat → Nat} {ln e : Nat} {CN XN : Nat → Nat} (ht : ∀ i, tp i < 256) (h : zg_read tp ln CN XN = .inl e) : e ≤ ln := by
  have key : ∀ f p s, p ≤ ln → zg_in ln p (zg_lines tp ln f p s) := by
    intro f
    induction f with
    | zero => intro p s hp; exact ⟨Nat.le_refl p, hp⟩
    | succ f ih =>
      intro p s hp
      simp only [zg_lines]; split
      · rename_i h1
        have hp1 : p < ln := zg_c_lt (tp := tp) (by omega)
        have h2 := zg_line_in (s := s) ht (show p + 1 ≤ ln from hp1)
        cases h3 : zg_line tp ln (p + 1) s with
        | inl e => rw [h3] at h2; exact ⟨by have := h2.1; omega, h2.2⟩
        | inr r =>
          rw [h3] at h2
          have h4 := ih r.1 r.2 h2.2
          have h5 : p ≤ r.1 := Nat.le_trans (Nat.le_succ p) h2.1
          simp only
          cases h6 : zg_lines tp ln f r.1 r.2 with
          | inl e => rw [h6] at h4; exact ⟨Nat.le_trans h5 h4.1, h4.2⟩
          | inr q => rw [h6] at h4; exact ⟨Nat.le_trans h5 h4.1, h4.2⟩
      · exact ⟨Nat.le_refl p, hp⟩
  unfold zg_read at h
  have h1 := zg_line_in (s := (0, CN, XN)) ht (Nat.zero_le ln)
  cases h2 : zg_line tp ln 0 (0, CN, XN) with
  | inl e1 => rw [h2] at h h1; injection h with h; subst h; exact h1.2
  | inr r =>
    rw [h2] at h h1
    have h3 := key 119 r.1 r.2 h1.2
    simp only at h
    cases h4 : zg_lines tp ln 119 r.1 r.2 with
    | inl e1 => rw [h4] at h h3; injection h with h; subst h; exact h3.2
    | inr q =>
      rw [h4] at h h3
      simp only at h
      split at h
      · injection h with h; subst h; exact h3.2
      · cases h

abbrev rm_X7_law : Room := { frames := 92, cells := 0, slots := 0, locals := 2716 }
theorem dvX7_law : zk_dv yX7_law RX7 0 := by decide +kernel
set_option maxRecDepth 100000 in
set_option maxHeartbeats 1500000 in
theorem ct_X7_law (l : Launch) (D : va_G) (g : Nat → ClassId) (τ : Nat → Nat) (a : Nat → Nat) (pic : Bool) (storm : Nat) (chance : Int32) (n : Nat) (hide : Nat) (ver : Nat) (ew : Int32) (ek : Bool) (kc : Nat) (kv : Nat) (kn : Nat) (km : Nat) (sz : Nat) (ns : Nat) (ln : Nat) (p : Nat) (ft : Int32) (tp : Nat → Nat) (C : Nat → Nat) (X : Nat → Nat) (CN : Nat → Nat) (XN : Nat → Nat) (T : Nat → Int32) (hln : ln ≤ 120) (ht : ∀ i, tp i < 256) (hvr : ver < 2 ^ 30) : zk_MI l D g τ yX7_law wsX7_law rm_X7_law [.ref (a 0)] [(a 0, .inr (7, [.ref (a 1), .ref (a 2), .ref (a 3), .ref (a 4), .ref (a 50), .ref (a 60), .ref (a 7), .ref (a 8), .int (zk_b pic), .int (nI storm), .int chance])), (a 2, .inr (5, [.ref (a 20), .ref (a 21), .ref (a 22), .int (nI n), .int (nI hide), .ref (a 1), .ref (a 23), .ref (a 24), .int (nI ver), .int ew, .int (zk_b ek)])), (a 23, .inl (g 2, 3024, .inl T)), (a 1, .inr (2, [.ref (a 10), .ref (a 11), .ref (a 12), .ref kc, .ref kv, .ref kn, .ref km, .int (nI sz), .int (nI ns), .int (nI ln), .int (nI p), .int ft])), (a 11, .inl (g 0, 120, .inl (fun i => nI (tp i)))), (kc, .inl (g 0, 128, .inl (fun i => nI (C i)))), (kv, .inl (g 0, 128, .inl (fun i => nI (X i)))), (kn, .inl (g 0, 128, .inl (fun i => nI (CN i)))), (km, .inl (g 0, 128, .inl (fun i => nI (XN i))))] (fun (r : Int32) (uu : Nat × Nat × Nat × Nat × Nat × Nat × Nat × Int32 × (Nat → Nat) × (Nat → Nat) × (Nat → Nat) × (Nat → Nat) × Nat × Bool × (Nat → Int32)) => (r = zg_law (zg_read tp ln CN XN)) ∧ (zg_new (zg_read tp ln CN XN) sz C X uu.2.2.2.2.1 uu.2.2.2.2.2.2.2.2.1 uu.2.2.2.2.2.2.2.2.2.1 ∧ ((∃ e, (zg_read tp ln CN XN) = .inl e ∧ uu.2.2.2.2.2.2.2.2.2.2.2.2.1 = ver ∧ uu.2.2.2.2.2.2.2.2.2.2.2.2.2.1 = ek ∧ uu.2.2.2.2.2.2.2.2.2.2.2.2.2.2 = T) ∨ (∃ q, (zg_read tp ln CN XN) = .inr q ∧ uu.2.2.2.2.2.2.2.2.2.2.2.2.1 = ver + 1 ∧ uu.2.2.2.2.2.2.2.2.2.2.2.2.2.1 = false ∧ uu.2.2.2.2.2.2.2.2.2.2.2.2.2.2 = zs_fill (fun _ => vp_nar .byte (nI 0)) T 3024)))) (fun (uu : Nat × Nat × Nat × Nat × Nat × Nat × Nat × Int32 × (Nat → Nat) × (Nat → Nat) × (Nat → Nat) × (Nat → Nat) × Nat × Bool × (Nat → Int32)) => [(a 0, .inr (7, [.ref (a 1), .ref (a 2), .ref (a 3), .ref (a 4), .ref (a 50), .ref (a 60), .ref (a 7), .ref (a 8), .int (zk_b pic), .int (nI storm), .int chance])), (a 2, .inr (5, [.ref (a 20), .ref (a 21), .ref (a 22), .int (nI n), .int (nI hide), .ref (a 1), .ref (a 23), .ref (a 24), .int (nI uu.2.2.2.2.2.2.2.2.2.2.2.2.1), .int ew, .int (zk_b uu.2.2.2.2.2.2.2.2.2.2.2.2.2.1)])), (a 23, .inl (g 2, 3024, .inl uu.2.2.2.2.2.2.2.2.2.2.2.2.2.2)), (a 1, .inr (2, [.ref (a 10), .ref (a 11), .ref (a 12), .ref uu.1, .ref uu.2.1, .ref uu.2.2.1, .ref uu.2.2.2.1, .int (nI uu.2.2.2.2.1), .int (nI uu.2.2.2.2.2.1), .int (nI 0), .int (nI uu.2.2.2.2.2.2.1), .int uu.2.2.2.2.2.2.2.1])), (a 11, .inl (g 0, 120, .inl (fun i => nI (tp i)))), (uu.1, .inl (g 0, 128, .inl (fun i => nI (uu.2.2.2.2.2.2.2.2.1 i)))), (uu.2.1, .inl (g 0, 128, .inl (fun i => nI (uu.2.2.2.2.2.2.2.2.2.1 i)))), (uu.2.2.1, .inl (g 0, 128, .inl (fun i => nI (uu.2.2.2.2.2.2.2.2.2.2.1 i)))), (uu.2.2.2.1, .inl (g 0, 128, .inl (fun i => nI (uu.2.2.2.2.2.2.2.2.2.2.2.1 i))))]) := by
  refine zk_of (Qc := fun A => va_Qi (fun (r : Int32) (uu : Nat × Nat × Nat × Nat × Nat × Nat × Nat × Int32 × (Nat → Nat) × (Nat → Nat) × (Nat → Nat) × (Nat → Nat) × Nat × Bool × (Nat → Int32)) => (r = zg_law (zg_read tp ln CN XN)) ∧ (zg_new (zg_read tp ln CN XN) sz C X uu.2.2.2.2.1 uu.2.2.2.2.2.2.2.2.1 uu.2.2.2.2.2.2.2.2.2.1 ∧ ((∃ e, (zg_read tp ln CN XN) = .inl e ∧ uu.2.2.2.2.2.2.2.2.2.2.2.2.1 = ver ∧ uu.2.2.2.2.2.2.2.2.2.2.2.2.2.1 = ek ∧ uu.2.2.2.2.2.2.2.2.2.2.2.2.2.2 = T) ∨ (∃ q, (zg_read tp ln CN XN) = .inr q ∧ uu.2.2.2.2.2.2.2.2.2.2.2.2.1 = ver + 1 ∧ uu.2.2.2.2.2.2.2.2.2.2.2.2.2.1 = false ∧ uu.2.2.2.2.2.2.2.2.2.2.2.2.2.2 = zs_fill (fun _ => vp_nar .byte (nI 0)) T 3024)))) (zk_B D g A (fun (uu : Nat × Nat × Nat × Nat × Nat × Nat × Nat × Int32 × (Nat → Nat) × (Nat → Nat) × (Nat → Nat) × (Nat → Nat) × Nat × Bool × (Nat → Int32)) => [(a 0, .inr (7, [.ref (a 1), .ref (a 2), .ref (a 3), .ref (a 4), .ref (a 50), .ref (a 60), .ref (a 7), .ref (a 8), .int (zk_b pic), .int (nI storm), .int chance])), (a 2, .inr (5, [.ref (a 20), .ref (a 21), .ref (a 22), .int (nI n), .int (nI hide), .ref (a 1), .ref (a 23), .ref (a 24), .int (nI uu.2.2.2.2.2.2.2.2.2.2.2.2.1), .int ew, .int (zk_b uu.2.2.2.2.2.2.2.2.2.2.2.2.2.1)])), (a 23, .inl (g 2, 3024, .inl uu.2.2.2.2.2.2.2.2.2.2.2.2.2.2)), (a 1, .inr (2, [.ref (a 10), .ref (a 11), .ref (a 12), .ref uu.1, .ref uu.2.1, .ref uu.2.2.1, .ref uu.2.2.2.1, .int (nI uu.2.2.2.2.1), .int (nI uu.2.2.2.2.2.1), .int (nI 0), .int (nI uu.2.2.2.2.2.2.1), .int uu.2.2.2.2.2.2.2.1])), (a 11, .inl (g 0, 120, .inl (fun i => nI (tp i)))), (uu.1, .inl (g 0, 128, .inl (fun i => nI (uu.2.2.2.2.2.2.2.2.1 i)))), (uu.2.1, .inl (g 0, 128, .inl (fun i => nI (uu.2.2.2.2.2.2.2.2.2.1 i)))), (uu.2.2.1, .inl (g 0, 128, .inl (fun i => nI (uu.2.2.2.2.2.2.2.2.2.2.1 i)))), (uu.2.2.2.1, .inl (g 0, 128, .inl (fun i => nI (uu.2.2.2.2.2.2.2.2.2.2.2.1 i))))])) A) (cc := cX7_law) (maxL := 2) (ret := (some .int)) (own := RX7) (by decide) rfl rfl (Nat.le_of_ble_eq_true rfl) ?_
  intro pP eE sS mM args below meth cC aA ls qQ Z hR_ hlk hnm hK hT hA hQ G hl
  have hinX7 : ∀ w ∈ u_ws RX7 TX7 11, w ∈ wsX7_law := (fun _ h => List.mem_cons_of_mem _ (List.mem_append_left _ (List.mem_append_left _ (List.mem_append_right _ h))))
  refine lv_aload_n Z.1 Z.2.1 dX7_law_0 rfl (lv_at hl 0 rfl) ?_
  refine zk_get (C := RX7) (T := TX7) (N := 11) (ci := 7) Z hK G hinX7 0 rfl rfl 0 (by decide) (List.mem_of_getElem? (i := 1) rfl) rfl (v := .ref (a 1)) rfl dX7_law_1 ?_
  refine zk_ci (WF := fun uu => [(a 0, .inr (7, [.ref (a 1), .ref (a 2), .ref (a 3), .ref (a 4), .ref (a 50), .ref (a 60), .ref (a 7), .ref (a 8), .int (zk_b pic), .int (nI storm), .int chance])), (a 2, .inr (5, [.ref (a 20), .ref (a 21), .ref (a 22), .int (nI n), .int (nI hide), .ref (a 1), .ref (a 23), .ref (a 24), .int (nI ver), .int ew, .int (zk_b ek)])), (a 23, .inl (g 2, 3024, .inl T)), (a 1, .inr (2, [.ref (a 10), .ref (a 11), .ref (a 12), .ref uu.1, .ref uu.2.1, .ref uu.2.2.1, .ref uu.2.2.2.1, .int (nI uu.2.2.2.2.1), .int (nI uu.2.2.2.2.2.1), .int (nI 0), .int (nI uu.2.2.2.2.2.2.1), .int uu.2.2.2.2.2.2.2.1])), (a 11, .inl (g 0, 120, .inl (fun i => nI (tp i)))), (uu.1, .inl (g 0, 128, .inl (fun i => nI (uu.2.2.2.2.2.2.2.2.1 i)))), (uu.2.1, .inl (g 0, 128, .inl (fun i => nI (uu.2.2.2.2.2.2.2.2.2.1 i)))), (uu.2.2.1, .inl (g 0, 128, .inl (fun i => nI (uu.2.2.2.2.2.2.2.2.2.2.1 i)))), (uu.2.2.2.1, .inl (g 0, 128, .inl (fun i => nI (uu.2.2.2.2.2.2.2.2.2.2.2 i))))]) (wr := [(a 0, .inr (7, [.ref (a 1), .ref (a 2), .ref (a 3), .ref (a 4), .ref (a 50), .ref (a 60), .ref (a 7), .ref (a 8), .int (zk_b pic), .int (nI storm), .int chance])), (a 2, .inr (5, [.ref (a 20), .ref (a 21), .ref (a 22), .int (nI n), .int (nI hide), .ref (a 1), .ref (a 23), .ref (a 24), .int (nI ver), .int ew, .int (zk_b ek)])), (a 23, .inl (g 2, 3024, .inl T))]) ⟨rfl, rfl⟩ (zk_rv (As := []) (rest := []) (q0 := 3) (ci := 2) Z ((ct_X2_read l D g τ a kc kv kn km sz ns ln p ft tp C X CN XN (by exact hln) (by exact ht)) sS.heap.size) hK hT hA G [3, 4, 5, 6, 7, 8] rfl (by decide) rfl rfl gX7_law_X2_read rfl dvX2_read ⟨by decide, by decide⟩ rfl hl.1 rfl (Nat.le_of_ble_eq_true rfl) dX7_law_4 ⟨Nat.zero_le _, Nat.zero_le _⟩) hA G [3, 4, 5, 6, 7, 8] [0, 1, 2] [0, 1, 2, 3, 4, 5, 6, 7, 8] rfl rfl (by decide) (by decide) (by decide) (fun _ => rfl) (fun r_4 uu H locs w_4 G => ?_)
  obtain ⟨kc1_4, kv1_4, kn1_4, km1_4, sz1_4, ns1_4, p1_4, ft1_4, C1_4, X1_4, C2_4, X2_4⟩ := uu
  have G : zk_G D aA [(a 0, .inr (7, [.ref (a 1), .ref (a 2), .ref (a 3), .ref (a 4), .ref (a 50), .ref (a 60), .ref (a 7), .ref (a 8), .int (zk_b pic), .int (nI storm), .int chance])), (a 2, .inr (5, [.ref (a 20), .ref (a 21), .ref (a 22), .int (nI n), .int (nI hide), .ref (a 1), .ref (a 23), .ref (a 24), .int (nI ver), .int ew, .int (zk_b ek)])), (a 23, .inl (g 2, 3024, .inl T)), (a 1, .inr (2, [.ref (a 10), .ref (a 11), .ref (a 12), .ref kc1_4, .ref kv1_4, .ref kn1_4, .ref km1_4, .int (nI sz1_4), .int (nI ns1_4), .int (nI 0), .int (nI p1_4), .int ft1_4])), (a 11, .inl (g 0, 120, .inl (fun i => nI (tp i)))), (kc1_4, .inl (g 0, 128, .inl (fun i => nI (C1_4 i)))), (kv1_4, .inl (g 0, 128, .inl (fun i => nI (X1_4 i)))), (kn1_4, .inl (g 0, 128, .inl (fun i => nI (C2_4 i)))), (km1_4, .inl (g 0, 128, .inl (fun i => nI (X2_4 i))))] sS H locs := G
  obtain ⟨h0_4, w_4⟩ := w_4
  obtain rfl : r_4 = zg_ans (zg_read tp ln CN XN) := h0_4
  have w_4 : zg_new (zg_read tp ln CN XN) sz C X sz1_4 C1_4 X1_4 := w_4
  rcases hz : (zg_read tp ln CN XN) with e | q
  · have hEe : e ≤ ln := zg_read_in ht hz
    refine W.eq (g2 := F0 mM 7 ls [.int (nI e)]) rfl ?_
    refine lv_istore_n (lv' := [(1, .int (nI e)), (0, .ref (a 0))]) Z.1 Z.2.1 dX7_law_7 rfl hl (by decide) rfl (fun ls hl => ?_)
    refine lv_iload_n Z.1 Z.2.1 dX7_law_8 rfl (lv_at hl 0 rfl) ?_
    refine lv_if_lt (tgt := 17) Z.1 Z.2.1 dX7_law_9 (by decide) (fun c9 => ?_) (fun c9 => ?_)
    · exfalso
      have c9 : e < 0 := zk_lt (by omega) (by omega) c9
      omega
    have c9 : 0 ≤ e := zk_nlt (by omega) (by omega) c9
    refine lv_bipush (v := (-100)) Z.1 Z.2.1 dX7_law_12 (by decide +kernel) ?_
    refine lv_iload_n Z.1 Z.2.1 dX7_law_14 rfl (lv_at hl 0 rfl) ?_
    refine zk_isub Z dX7_law_15 (z := -100 - nI e) rfl ?_
    exact zk_reti Z hR_ hlk hK hQ G (kc1_4, kv1_4, kn1_4, km1_4, sz1_4, ns1_4, p1_4, ft1_4, C1_4, X1_4, C2_4, X2_4, ver, ek, T) ⟨(by rw [hz]; rfl), w_4, Or.inl ⟨e, hz, rfl, rfl, rfl⟩⟩ rfl dX7_law_16
  · refine W.eq (g2 := F0 mM 7 ls [.int (-1)]) rfl ?_
    refine lv_istore_n (lv' := [(1, .int (-1)), (0, .ref (a 0))]) Z.1 Z.2.1 dX7_law_7 rfl hl (by decide) rfl (fun ls hl => ?_)
    refine lv_iload_n Z.1 Z.2.1 dX7_law_8 rfl (lv_at hl 0 rfl) ?_
    refine lv_if_lt (tgt := 17) Z.1 Z.2.1 dX7_law_9 (by decide) (fun c9 => ?_) (fun c9 => ?_)
    · have c9 : ((-1) : Int32) < 0 := c9
      refine lv_aload_n Z.1 Z.2.1 dX7_law_17 rfl (lv_at hl 1 rfl) ?_
      refine zk_get (C := RX7) (T := TX7) (N := 11) (ci := 7) Z hK G hinX7 0 rfl rfl 1 (by decide) (List.mem_of_getElem? (i := 2) rfl) rfl (v := .ref (a 2)) rfl dX7_law_18 ?_
      refine zk_cv (WF := fun (_ : Unit) => [(a 0, .inr (7, [.ref (a 1), .ref (a 2), .ref (a 3), .ref (a 4), .ref (a 50), .ref (a 60), .ref (a 7), .ref (a 8), .int (zk_b pic), .int (nI storm), .int chance])), (a 2, .inr (5, [.ref (a 20), .ref (a 21), .ref (a 22), .int (nI n), .int (nI hide), .ref (a 1), .ref (a 23), .ref (a 24), .int (nI (ver + 1)), .int ew, .int (zk_b false)])), (a 23, .inl (g 2, 3024, .inl (zs_fill (fun _ => vp_nar .byte (nI 0)) T 3024))), (a 1, .inr (2, [.ref (a 10), .ref (a 11), .ref (a 12), .ref kc1_4, .ref kv1_4, .ref kn1_4, .ref km1_4, .int (nI sz1_4), .int (nI ns1_4), .int (nI 0), .int (nI p1_4), .int ft1_4])), (a 11, .inl (g 0, 120, .inl (fun i => nI (tp i)))), (kc1_4, .inl (g 0, 128, .inl (fun i => nI (C1_4 i)))), (kv1_4, .inl (g 0, 128, .inl (fun i => nI (X1_4 i)))), (kn1_4, .inl (g 0, 128, .inl (fun i => nI (C2_4 i)))), (km1_4, .inl (g 0, 128, .inl (fun i => nI (X2_4 i))))]) (wr := [(a 0, .inr (7, [.ref (a 1), .ref (a 2), .ref (a 3), .ref (a 4), .ref (a 50), .ref (a 60), .ref (a 7), .ref (a 8), .int (zk_b pic), .int (nI storm), .int chance])), (a 1, .inr (2, [.ref (a 10), .ref (a 11), .ref (a 12), .ref kc1_4, .ref kv1_4, .ref kn1_4, .ref km1_4, .int (nI sz1_4), .int (nI ns1_4), .int (nI 0), .int (nI p1_4), .int ft1_4])), (a 11, .inl (g 0, 120, .inl (fun i => nI (tp i)))), (kc1_4, .inl (g 0, 128, .inl (fun i => nI (C1_4 i)))), (kv1_4, .inl (g 0, 128, .inl (fun i => nI (X1_4 i)))), (kn1_4, .inl (g 0, 128, .inl (fun i => nI (C2_4 i)))), (km1_4, .inl (g 0, 128, .inl (fun i => nI (X2_4 i))))]) ⟨rfl, rfl⟩ (zk_rv (As := []) (rest := []) (q0 := 1) (ci := 5) Z ((ct_X5_forgetAll l D g τ a n hide ver ew ek T ) H.size) hK hT hA G [1, 2] rfl (by decide) rfl rfl gX7_law_X5_forgetAll rfl dvX5_forgetAll ⟨by decide, by decide⟩ rfl hl.1 rfl (Nat.le_of_ble_eq_true rfl) dX7_law_21 ⟨Nat.zero_le _, Nat.zero_le _⟩) hA G [1, 2] [0, 3, 4, 5, 6, 7, 8] [0, 7, 8, 1, 2, 3, 4, 5, 6] rfl rfl (by decide) (by decide) (by decide) (fun _ => rfl) (fun _ H locs w_21 G => ?_)
      refine lv_iconst (v := nI 1) Z.1 Z.2.1 dX7_law_24 (by decide +kernel) ?_
      exact zk_reti Z hR_ hlk hK hQ G (kc1_4, kv1_4, kn1_4, km1_4, sz1_4, ns1_4, p1_4, ft1_4, C1_4, X1_4, C2_4, X2_4, ver + 1, false, zs_fill (fun _ => vp_nar .byte (nI 0)) T 3024) ⟨(by rw [hz]; rfl), w_4, Or.inr ⟨q, hz, rfl, rfl, rfl⟩⟩ rfl dX7_law_25
    exfalso
    have c9 : ¬ ((-1) : Int32) < 0 := c9
    exact c9 (by decide)

/-! The law told: codes worked out are what the text says. -/
abbrev zy_L : Type := List (Nat × Nat)
def zy_fl (c v : Nat) (s : zy_L) : zy_L := s ++ [(c, v)]
section
variable {σ : Type} {em : Nat → Nat → σ → σ} {tp : Nat → Nat} {ln : Nat}
def zy_fd (em : Nat → Nat → σ → σ) (l : zy_L) (s : σ) : σ := l.foldl (fun s9 cv => em cv.1 cv.2 s9) s
def zy_mp {α β : Type} (f : α → β) (r : zg_R α) : zg_R β := match r with | .inl e => .inl e | .inr q => .inr (q.1, f q.2)
theorem zy_fd_app (l k : zy_L) (s : σ) : zy_fd em (l ++ k) s = zy_fd em k (zy_fd em l s) := List.foldl_append
theorem zy_fd_c (c v : Nat) (r : zy_L) (s : σ) : zy_fd em ((c, v) :: r) s = zy_fd em r (em c v s) := rfl
theorem zy_lp_fl {lev : Nat} {partL : Nat → zy_L → zg_R zy_L} (hL : ∀ p l, partL p l = zy_mp (fun k => l ++ k) (partL p [])) : ∀ f p l, zg_lp tp ln zy_fl partL lev f p l = zy_mp (fun k => l ++ k) (zg_lp tp ln zy_fl partL lev f p [])
  | 0, p, l => by simp only [zg_lp, zy_mp, List.append_nil]
  | f + 1, p, l => by
    simp only [zg_lp]
    by_cases h : zg_lev (zg_c tp ln p) = lev
    · rw [if_pos h, if_pos h, hL (p + 1) l]
      cases hr : partL (p + 1) [] with
      | inl e => rfl
      | inr r =>
        show zg_lp tp ln zy_fl partL lev f r.1 (zy_fl (zg_c tp ln p) 0 (l ++ r.2)) = zy_mp (fun k => l ++ k) (zg_lp tp ln zy_fl partL lev f r.1 (zy_fl (zg_c tp ln p) 0 r.2))
        rw [zy_lp_fl hL f r.1 (zy_fl (zg_c tp ln p) 0 (l ++ r.2)), zy_lp_fl hL f r.1 (zy_fl (zg_c tp ln p) 0 r.2)]
        cases zg_lp tp ln zy_fl partL lev f r.1 [] with
        | inl e => rfl
        | inr q => simp only [zy_mp, zy_fl, List.append_assoc]
    · rw [if_neg h, if_neg h]; simp only [zy_mp, List.append_nil]
theorem zy_lp_em {lev : Nat} {part : Nat → σ → zg_R σ} {partL : Nat → zy_L → zg_R zy_L} (hp : ∀ p s, part p s = zy_mp (fun l => zy_fd em l s) (partL p [])) (hL : ∀ p l, partL p l = zy_mp (fun k => l ++ k) (partL p [])) : ∀ f p s, zg_lp tp ln em part lev f p s = zy_mp (fun l => zy_fd em l s) (zg_lp tp ln zy_fl partL lev f p [])
  | 0, p, s => rfl
  | f + 1, p, s => by
    simp only [zg_lp]
    by_cases h : zg_lev (zg_c tp ln p) = lev
    · rw [if_pos h, if_pos h, hp (p + 1) s]
      cases hr : partL (p + 1) [] with
      | inl e => rfl
      | inr r =>
        show zg_lp tp ln em part lev f r.1 (em (zg_c tp ln p) 0 (zy_fd em r.2 s)) = zy_mp (fun l => zy_fd em l s) (zg_lp tp ln zy_fl partL lev f r.1 (zy_fl (zg_c tp ln p) 0 r.2))
        rw [zy_lp_em hp hL f r.1 _, zy_lp_fl hL f r.1 (zy_fl (zg_c tp ln p) 0 r.2)]
        cases zg_lp tp ln zy_fl partL lev f r.1 [] with
        | inl e => rfl
        | inr q => simp only [zy_mp, zy_fl, zy_fd_app]; rfl
    · rw [if_neg h, if_neg h]; rfl
theorem zy_homL : ∀ d lev op p l, zg tp ln zy_fl d lev op p l = zy_mp (fun k => l ++ k) (zg tp ln zy_fl d lev op p [])
  | 0, _, _, _, _ => rfl
  | d + 1, lev, op, p, l => by
    simp only [zg]
    by_cases h1 : lev < 5
    · rw [if_pos h1, if_pos h1, zy_homL d (lev + 1) op p l]
      cases hr : zg tp ln zy_fl d (lev + 1) op p [] with
      | inl e => rfl
      | inr r =>
        show zg_lp tp ln zy_fl (zg tp ln zy_fl d (lev + 1) op) lev _ r.1 (l ++ r.2) = zy_mp (fun k => l ++ k) (zg_lp tp ln zy_fl (zg tp ln zy_fl d (lev + 1) op) lev _ r.1 r.2)
        rw [zy_lp_fl (fun p l => zy_homL d (lev + 1) op p l) _ r.1 (l ++ r.2), zy_lp_fl (fun p l => zy_homL d (lev + 1) op p l) _ r.1 r.2]
        cases zg_lp tp ln zy_fl (zg tp ln zy_fl d (lev + 1) op) lev (if lev = 2 then 1 else 120) r.1 [] with
        | inl e => rfl
        | inr q => simp only [zy_mp, List.append_assoc]
    · rw [if_neg h1, if_neg h1]
      by_cases h2 : 48 ≤ zg_c tp ln p ∧ zg_c tp ln p ≤ 57
      · rw [if_pos h2, if_pos h2]; rfl
      · rw [if_neg h2, if_neg h2]
        by_cases h3 : zg_nam (zg_c tp ln p) < 6
        · rw [if_pos h3, if_pos h3]; rfl
        · rw [if_neg h3, if_neg h3]
          by_cases h4 : 6 ≤ op ∨ ¬ (zg_c tp ln p = 40 ∨ zg_c tp ln p = 33 ∨ zg_c tp ln p = 45)
          · rw [if_pos h4, if_pos h4]; rfl
          · rw [if_neg h4, if_neg h4]
            by_cases h5 : zg_c tp ln p = 40
            · rw [if_pos h5, if_pos h5, zy_homL d 0 (op + 1) (p + 1) l]
              cases hr : zg tp ln zy_fl d 0 (op + 1) (p + 1) [] with
              | inl e => rfl
              | inr r =>
                simp only [zy_mp]
                by_cases h6 : zg_c tp ln r.1 = 41
                · rw [if_pos h6, if_pos h6]
                · rw [if_neg h6, if_neg h6]
            · rw [if_neg h5, if_neg h5, zy_homL d 5 (op + 1) (p + 1) l]
              cases hr : zg tp ln zy_fl d 5 (op + 1) (p + 1) [] with
              | inl e => rfl
              | inr r => simp only [zy_mp, zy_fl, List.append_assoc]
theorem zy_hom : ∀ d lev op p s, zg tp ln em d lev op p s = zy_mp (fun l => zy_fd em l s) (zg tp ln zy_fl d lev op p [])
  | 0, _, _, _, _ => rfl
  | d + 1, lev, op, p, s => by
    simp only [zg]
    by_cases h1 : lev < 5
    · rw [if_pos h1, if_pos h1, zy_hom d (lev + 1) op p s]
      cases hr : zg tp ln zy_fl d (lev + 1) op p [] with
      | inl e => rfl
      | inr r =>
        show zg_lp tp ln em (zg tp ln em d (lev + 1) op) lev _ r.1 (zy_fd em r.2 s) = zy_mp (fun l => zy_fd em l s) (zg_lp tp ln zy_fl (zg tp ln zy_fl d (lev + 1) op) lev _ r.1 r.2)
        rw [zy_lp_em (fun p s => zy_hom d (lev + 1) op p s) (fun p l => zy_homL d (lev + 1) op p l) _ r.1 _, zy_lp_fl (fun p l => zy_homL d (lev + 1) op p l) _ r.1 r.2]
        cases zg_lp tp ln zy_fl (zg tp ln zy_fl d (lev + 1) op) lev (if lev = 2 then 1 else 120) r.1 [] with
        | inl e => rfl
        | inr q => simp only [zy_mp, zy_fd_app]
    · rw [if_neg h1, if_neg h1]
      by_cases h2 : 48 ≤ zg_c tp ln p ∧ zg_c tp ln p ≤ 57
      · rw [if_pos h2, if_pos h2]; rfl
      · rw [if_neg h2, if_neg h2]
        by_cases h3 : zg_nam (zg_c tp ln p) < 6
        · rw [if_pos h3, if_pos h3]; rfl
        · rw [if_neg h3, if_neg h3]
          by_cases h4 : 6 ≤ op ∨ ¬ (zg_c tp ln p = 40 ∨ zg_c tp ln p = 33 ∨ zg_c tp ln p = 45)
          · rw [if_pos h4, if_pos h4]; rfl
          · rw [if_neg h4, if_neg h4]
            by_cases h5 : zg_c tp ln p = 40
            · rw [if_pos h5, if_pos h5, zy_hom d 0 (op + 1) (p + 1) s]
              cases hr : zg tp ln zy_fl d 0 (op + 1) (p + 1) [] with
              | inl e => rfl
              | inr r =>
                simp only [zy_mp]
                by_cases h6 : zg_c tp ln r.1 = 41
                · rw [if_pos h6, if_pos h6]
                · rw [if_neg h6, if_neg h6]
            · rw [if_neg h5, if_neg h5, zy_hom d 5 (op + 1) (p + 1) s]
              cases hr : zg tp ln zy_fl d 5 (op + 1) (p + 1) [] with
              | inl e => rfl
              | inr r => simp only [zy_mp, zy_fl, zy_fd_app]; rfl
/-- how many lie on the stack before and behind codes -/
def zy_sh : zy_L → Nat → Nat → Prop
  | [], h, h' => h' = h
  | x :: r, h, h' => if x.1 = 1 ∨ x.1 = 2 then zy_sh r (h + 1) h' else if x.1 = 5 ∨ x.1 = 6 then 1 ≤ h ∧ zy_sh r h h' else 2 ≤ h ∧ zy_sh r (h - 1) h'
theorem zy_sh_app : ∀ {l k : zy_L} {a b c : Nat}, zy_sh l a b → zy_sh k b c → zy_sh (l ++ k) a c
  | [], k, a, b, c, h1, h2 => by
    have e : b = a := h1
    subst e; exact h2
  | x :: r, k, a, b, c, h1, h2 => by
    simp only [zy_sh] at h1
    show zy_sh (x :: (r ++ k)) a c
    simp only [zy_sh]
    by_cases h3 : x.1 = 1 ∨ x.1 = 2
    · rw [if_pos h3] at h1 ⊢; exact zy_sh_app h1 h2
    · rw [if_neg h3] at h1 ⊢
      by_cases h4 : x.1 = 5 ∨ x.1 = 6
      · rw [if_pos h4] at h1 ⊢; exact ⟨h1.1, zy_sh_app h1.2 h2⟩
      · rw [if_neg h4] at h1 ⊢; exact ⟨h1.1, zy_sh_app h1.2 h2⟩
def zy_gc (x : Nat × Nat) : Prop := x.1 ≠ 3 ∧ x.1 ≠ 4 ∧ x.1 < 256 ∧ x.2 < 10000 ∧ (x.1 = 2 → x.2 < 6)
def zy_gl (l : zy_L) : Prop := ∀ x ∈ l, zy_gc x
theorem zy_gl_app {l k : zy_L} (h1 : zy_gl l) (h2 : zy_gl k) : zy_gl (l ++ k) := fun x hx => (List.mem_append.mp hx).elim (h1 x) (h2 x)
theorem zy_gl_1 {c v : Nat} (h : zy_gc (c, v)) : zy_gl [(c, v)] := fun x hx => by
  rw [List.mem_singleton] at hx; rw [hx]; exact h
theorem zy_lev_c {c : Nat} (h : zg_lev c < 5) : c = 124 ∨ c = 38 ∨ c = 60 ∨ c = 61 ∨ c = 62 ∨ c = 43 ∨ c = 45 ∨ c = 42 ∨ c = 47 ∨ c = 37 := by
  unfold zg_lev at h
  by_cases h1 : c = 124
  · exact Or.inl h1
  · rw [if_neg h1] at h
    by_cases h2 : c = 38
    · omega
    · rw [if_neg h2] at h
      by_cases h3 : c = 60 ∨ c = 61 ∨ c = 62
      · omega
      · rw [if_neg h3] at h
        by_cases h4 : c = 43 ∨ c = 45
        · omega
        · rw [if_neg h4] at h
          by_cases h5 : c = 42 ∨ c = 47 ∨ c = 37
          · omega
          · rw [if_neg h5] at h; omega
theorem zy_num : ∀ f p v, p ≤ (zg_num tp ln f p v).1 ∧ (zg_num tp ln f p v).2 + 1 ≤ (v + 1) * 10 ^ f
  | 0, p, v => ⟨Nat.le_refl p, by show v + 1 ≤ (v + 1) * 1; omega⟩
  | f + 1, p, v => by
    simp only [zg_num]
    by_cases h : 48 ≤ zg_c tp ln p ∧ zg_c tp ln p ≤ 57
    · rw [if_pos h]
      have ih := zy_num f (p + 1) (v * 10 + zg_c tp ln p - 48)
      refine ⟨by omega, Nat.le_trans ih.2 ?_⟩
      rw [Nat.pow_succ, Nat.mul_comm (10 ^ f) 10, ← Nat.mul_assoc]
      exact Nat.mul_le_mul_right _ (by omega)
    · rw [if_neg h]
      refine ⟨Nat.le_refl p, ?_⟩
      exact Nat.le_mul_of_pos_right _ (Nat.pow_pos (by decide))
theorem zy_num1 {f p v : Nat} (h : 48 ≤ zg_c tp ln p ∧ zg_c tp ln p ≤ 57) : p + 1 ≤ (zg_num tp ln (f + 1) p v).1 := by
  simp only [zg_num]; rw [if_pos h]
  exact (zy_num f (p + 1) _).1
/-- what a part's codes are -/
def zy_ex (p : Nat) (r : zg_R zy_L) : Prop := match r with | .inl _ => True | .inr q => p < q.1 ∧ q.2.length ≤ q.1 - p ∧ (∀ h, zy_sh q.2 h (h + 1)) ∧ zy_gl q.2
def zy_le (p : Nat) (r : zg_R zy_L) : Prop := match r with | .inl _ => True | .inr q => p ≤ q.1 ∧ q.2.length ≤ q.1 - p ∧ (∀ h, zy_sh q.2 (h + 1) (h + 1)) ∧ zy_gl q.2
theorem zy_lp_P {lev : Nat} (hl : lev < 5) {partL : Nat → zy_L → zg_R zy_L} (hL : ∀ p l, partL p l = zy_mp (fun k => l ++ k) (partL p [])) (hP : ∀ p, zy_ex p (partL p [])) : ∀ f p, zy_le p (zg_lp tp ln zy_fl partL lev f p [])
  | 0, p => ⟨Nat.le_refl p, Nat.zero_le _, fun _ => rfl, fun x hx => absurd hx List.not_mem_nil⟩
  | f + 1, p => by
    simp only [zg_lp]
    by_cases h : zg_lev (zg_c tp ln p) = lev
    · rw [if_pos h]
      have h1 := hP (p + 1)
      cases hr : partL (p + 1) [] with
      | inl e => trivial
      | inr r =>
        rw [hr] at h1
        obtain ⟨a1, a2, a3, a4⟩ := h1
        have h2 := zy_lp_P hl hL hP f r.1
        simp only
        rw [zy_lp_fl hL f r.1 (zy_fl (zg_c tp ln p) 0 r.2)]
        cases hq : zg_lp tp ln zy_fl partL lev f r.1 [] with
        | inl e => trivial
        | inr q =>
          rw [hq] at h2
          obtain ⟨b1, b2, b3, b4⟩ := h2
          have hc := zy_lev_c (show zg_lev (zg_c tp ln p) < 5 by omega)
          refine ⟨by show p ≤ q.1; omega, ?_, fun h9 => ?_, ?_⟩
          · show (zy_fl (zg_c tp ln p) 0 r.2 ++ q.2).length ≤ q.1 - p
            unfold zy_fl
            rw [List.length_append, List.length_append]
            show r.2.length + 1 + q.2.length ≤ q.1 - p
            omega
          · refine zy_sh_app (zy_sh_app (a3 (h9 + 1)) ?_) (b3 h9)
            show zy_sh [(zg_c tp ln p, 0)] (h9 + 1 + 1) (h9 + 1)
            simp only [zy_sh]
            rw [if_neg (by omega), if_neg (by omega)]
            exact ⟨by omega, rfl⟩
          · exact zy_gl_app (zy_gl_app a4 (zy_gl_1 ⟨by show zg_c tp ln p ≠ 3; omega, by show zg_c tp ln p ≠ 4; omega, by show zg_c tp ln p < 256; omega, by show 0 < 10000; decide, fun q9 => by have q8 : zg_c tp ln p = 2 := q9; omega⟩)) b4
    · rw [if_neg h]
      exact ⟨Nat.le_refl p, Nat.zero_le _, fun _ => rfl, fun x hx => absurd hx List.not_mem_nil⟩
theorem zy_zg_P : ∀ d lev op p, lev ≤ 5 → zy_ex p (zg tp ln zy_fl d lev op p [])
  | 0, _, _, _, _ => trivial
  | d + 1, lev, op, p, hlev => by
    simp only [zg]
    by_cases h1 : lev < 5
    · rw [if_pos h1]
      have h2 := zy_zg_P d (lev + 1) op p (by omega)
      cases hr : zg tp ln zy_fl d (lev + 1) op p [] with
      | inl e => trivial
      | inr r =>
        rw [hr] at h2
        obtain ⟨a1, a2, a3, a4⟩ := h2
        simp only
        rw [zy_lp_fl (fun p l => zy_homL d (lev + 1) op p l) _ r.1 r.2]
        have h3 := zy_lp_P (tp := tp) (ln := ln) h1 (fun p l => zy_homL d (lev + 1) op p l) (fun p => zy_zg_P d (lev + 1) op p (by omega)) (if lev = 2 then 1 else 120) r.1
        cases hq : zg_lp tp ln zy_fl (zg tp ln zy_fl d (lev + 1) op) lev (if lev = 2 then 1 else 120) r.1 [] with
        | inl e => trivial
        | inr q =>
          rw [hq] at h3
          obtain ⟨b1, b2, b3, b4⟩ := h3
          refine ⟨by show p < q.1; omega, ?_, fun h9 => zy_sh_app (a3 h9) (b3 h9), zy_gl_app a4 b4⟩
          show (r.2 ++ q.2).length ≤ q.1 - p
          rw [List.length_append]; omega
    · rw [if_neg h1]
      by_cases h2 : 48 ≤ zg_c tp ln p ∧ zg_c tp ln p ≤ 57
      · rw [if_pos h2]
        have n1 : p + 1 ≤ (zg_num tp ln 4 p 0).1 := zy_num1 (f := 3) h2
        have n2 := (zy_num (tp := tp) (ln := ln) 4 p 0).2
        refine ⟨by show p < (zg_num tp ln 4 p 0).1; omega, by show 1 ≤ (zg_num tp ln 4 p 0).1 - p; omega, fun h9 => ?_, zy_gl_1 ⟨by show (1 : Nat) ≠ 3; decide, by show (1 : Nat) ≠ 4; decide, by show (1 : Nat) < 256; decide, by show (zg_num tp ln 4 p 0).2 < 10000; omega, fun q9 => absurd (show (1 : Nat) = 2 from q9) (by decide)⟩⟩
        exact Eq.mpr (if_pos (show (1 : Nat) = 1 ∨ (1 : Nat) = 2 from Or.inl rfl)) (show h9 + 1 = h9 + 1 from rfl)
      · rw [if_neg h2]
        by_cases h3 : zg_nam (zg_c tp ln p) < 6
        · rw [if_pos h3]
          refine ⟨Nat.lt_succ_self p, by show 1 ≤ p + 1 - p; omega, fun h9 => ?_, zy_gl_1 ⟨by show (2 : Nat) ≠ 3; decide, by show (2 : Nat) ≠ 4; decide, by show (2 : Nat) < 256; decide, by show zg_nam (zg_c tp ln p) < 10000; omega, fun _ => h3⟩⟩
          exact Eq.mpr (if_pos (show (2 : Nat) = 1 ∨ (2 : Nat) = 2 from Or.inr rfl)) (show h9 + 1 = h9 + 1 from rfl)
        · rw [if_neg h3]
          by_cases h4 : 6 ≤ op ∨ ¬ (zg_c tp ln p = 40 ∨ zg_c tp ln p = 33 ∨ zg_c tp ln p = 45)
          · rw [if_pos h4]; trivial
          · rw [if_neg h4]
            by_cases h5 : zg_c tp ln p = 40
            · rw [if_pos h5]
              have h6 := zy_zg_P d 0 (op + 1) (p + 1) (by omega)
              cases hr : zg tp ln zy_fl d 0 (op + 1) (p + 1) [] with
              | inl e => trivial
              | inr r =>
                rw [hr] at h6
                obtain ⟨a1, a2, a3, a4⟩ := h6
                simp only
                by_cases h7 : zg_c tp ln r.1 = 41
                · rw [if_pos h7]; exact ⟨by show p < r.1 + 1; omega, by show r.2.length ≤ r.1 + 1 - p; omega, a3, a4⟩
                · rw [if_neg h7]; trivial
            · rw [if_neg h5]
              have h6 := zy_zg_P d 5 (op + 1) (p + 1) (by omega)
              cases hr : zg tp ln zy_fl d 5 (op + 1) (p + 1) [] with
              | inl e => trivial
              | inr r =>
                rw [hr] at h6
                obtain ⟨a1, a2, a3, a4⟩ := h6
                simp only
                refine ⟨by show p < r.1; omega, ?_, fun h9 => ?_, ?_⟩
                · show (zy_fl (if zg_c tp ln p = 33 then 6 else 5) 0 r.2).length ≤ r.1 - p
                  unfold zy_fl; rw [List.length_append]; show r.2.length + 1 ≤ r.1 - p; omega
                · refine zy_sh_app (a3 h9) ?_
                  by_cases h33 : zg_c tp ln p = 33
                  · rw [if_pos h33]
                    exact Eq.mpr (if_neg (show ¬ ((6 : Nat) = 1 ∨ (6 : Nat) = 2) by decide)) (Eq.mpr (if_pos (show (6 : Nat) = 5 ∨ (6 : Nat) = 6 from Or.inr rfl)) ⟨by omega, rfl⟩)
                  · rw [if_neg h33]
                    exact Eq.mpr (if_neg (show ¬ ((5 : Nat) = 1 ∨ (5 : Nat) = 2) by decide)) (Eq.mpr (if_pos (show (5 : Nat) = 5 ∨ (5 : Nat) = 6 from Or.inl rfl)) ⟨by omega, rfl⟩)
                · refine zy_gl_app a4 (zy_gl_1 ?_)
                  split
                  · exact ⟨by decide, by decide, by decide, by decide, fun q9 => absurd q9 (by decide)⟩
                  · exact ⟨by decide, by decide, by decide, by decide, fun q9 => absurd q9 (by decide)⟩
end

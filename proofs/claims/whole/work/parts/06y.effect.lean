/-! what a statement does; the shape of statements -/
def arr (h : Nat → Nat) (x o y : Nat) : Option (Nat → Nat) := if x < h 42 ∧ y < h 42 ∧ ¬ x = y then (if o = 62 then some (upN h (24 + x) (h (24 + x) ||| 2 ^ y)) else some (upN h (32 + x) (h (32 + x) ||| 2 ^ y))) else none
def chR (L : Nat → Nat) (h : Nat → Nat) (a : Nat) : Nat → Option (Nat → Nat)
  | 0 => some h
  | j + 1 => match chR L h a j with
    | none => none
    | some x => arr x (L (a + 2 * j) - 97) (L (a + 2 * j + 1)) (L (a + 2 * j + 2) - 97)
def eff (L : Nat → Nat) (h : Nat → Nat) (a p : Nat) : Option (Nat → Nat) :=
  if L a = 42 then (if L (a + 1) - 48 ≤ 5 ∧ h 42 < 8 then some (adn h (L (a + 1) - 48) (L (a + 2) - 48) (L (a + 3) - 48)) else none)
  else if L a = 109 then (if L (a + 1) - 48 < 4 then some (upN h 41 (L (a + 1) - 48)) else none)
  else if L a - 97 < h 42 then
    (if L (a + 1) = 58 then (if L (a + 2) - 48 ≤ 5 then some (upN (upN h (L a - 97) (L (a + 2) - 48)) (8 + (L a - 97)) (L (a + 3) - 48)) else none)
    else if L (a + 1) = 33 then some (upN h 40 (h 40 ^^^ 2 ^ (L a - 97)))
    else chR L h a ((p - a) / 2))
  else none
def shp (L : Nat → Nat) (a p : Nat) : Prop :=
  (L a = 42 ∧ p = a + 4 ∧ dgB (L (a + 1)) = true ∧ dgB (L (a + 2)) = true ∧ dgB (L (a + 3)) = true) ∨
  (L a = 109 ∧ p = a + 2 ∧ dgB (L (a + 1)) = true) ∨
  (nmB (L a) = true ∧ L (a + 1) = 58 ∧ p = a + 4 ∧ dgB (L (a + 2)) = true ∧ dgB (L (a + 3)) = true) ∨
  (nmB (L a) = true ∧ L (a + 1) = 33 ∧ p = a + 2) ∨
  (nmB (L a) = true ∧ ∃ J, 1 ≤ J ∧ p = a + 2 * J + 1 ∧ ∀ j, j < J → lkB (L (a + 2 * j + 1)) = true ∧ nmB (L (a + 2 * j + 2)) = true)
def wfL (L : Nat → Nat) (n : Nat) : Prop := (∀ i, i < n → ¬ sa L (i + 1) = 8) ∧ sa L n = 0 ∧ 0 < n
theorem bdp_wf {L : Nat → Nat} {n : Nat} (h : bdp L n = none) : wfL L n := by
  unfold bdp at h
  cases e : frs (bdB L) n with
  | some x => rw [e] at h; cases h
  | none =>
    rw [e] at h
    simp only at h
    split at h
    · next q => exact ⟨fun i hi => of_decide_eq_false (frs_nf n e i hi), q.1, q.2⟩
    · cases h
theorem ax_59 (s : Nat) : ax s 59 = 0 ∨ ax s 59 = 8 := by
  unfold ax
  have e1 : nmB 59 = false := by decide
  have e2 : dgB 59 = false := by decide
  have e3 : lkB 59 = false := by decide
  rw [e1, e2, e3]
  simp only [Bool.false_eq_true, if_false]
  repeat' split
  all_goals first | exact Or.inl rfl | exact Or.inr rfl | (exfalso; omega)
theorem ax_n0 {s l : Nat} (h : ¬ l = 59) : ¬ ax s l = 0 := by
  unfold ax
  repeat' split
  all_goals omega
section SHP
variable {L : Nat → Nat} {n : Nat}
theorem wf_dg (W : wfL L n) {i s : Nat} (hi : i ≤ n) (h : sa L i = s) (h1 : 1 ≤ s) (h3 : s ≤ 3) : i < n ∧ dgB (L i) = true ∧ sa L (i + 1) = s + 1 := by
  have lt : i < n := by
    cases Nat.lt_or_eq_of_le hi with
    | inl q => exact q
    | inr q => subst q; rw [W.2.1] at h; omega
  have g := W.1 i lt
  rw [sa_s, h, ax_dg h1 h3] at g ⊢
  cases z : dgB (L i)
  · rw [z] at g; exact absurd rfl g
  · exact ⟨lt, rfl, rfl⟩
theorem wf_4 (W : wfL L n) {i : Nat} (hi : i ≤ n) (h : sa L i = 4) : i < n ∧ L i = 59 := by
  have lt : i < n := by
    cases Nat.lt_or_eq_of_le hi with
    | inl q => exact q
    | inr q => subst q; rw [W.2.1] at h; omega
  have g := W.1 i lt
  rw [sa_s, h, ax_4] at g
  by_cases q : L i = 59
  · exact ⟨lt, q⟩
  · rw [if_neg q] at g; exact absurd rfl g
theorem wf_6 (W : wfL L n) {i : Nat} (hi : i ≤ n) (h : sa L i = 6) : i < n ∧ nmB (L i) = true ∧ sa L (i + 1) = 7 := by
  have lt : i < n := by
    cases Nat.lt_or_eq_of_le hi with
    | inl q => exact q
    | inr q => subst q; rw [W.2.1] at h; omega
  have g := W.1 i lt
  rw [sa_s, h, ax_6] at g ⊢
  cases z : nmB (L i)
  · rw [z] at g; exact absurd rfl g
  · exact ⟨lt, rfl, rfl⟩
theorem wf_7 (W : wfL L n) {i : Nat} (hi : i ≤ n) (h : sa L i = 7) (h59 : ¬ L i = 59) : i < n ∧ lkB (L i) = true ∧ sa L (i + 1) = 6 := by
  have lt : i < n := by
    cases Nat.lt_or_eq_of_le hi with
    | inl q => exact q
    | inr q => subst q; rw [W.2.1] at h; omega
  have g := W.1 i lt
  rw [sa_s, h, ax_7, if_neg h59] at g ⊢
  cases z : lkB (L i)
  · rw [z] at g; exact absurd rfl g
  · exact ⟨lt, rfl, rfl⟩
theorem chain_shp (W : wfL L n) {p : Nat} (hp : p < n) (h59 : L p = 59) : ∀ f q, p < q + f → q ≤ p → sa L q = 7 → (∀ i, q ≤ i → i < p → ¬ L i = 59) → ∃ J, p = q + 2 * J ∧ ∀ j, j < J → lkB (L (q + 2 * j)) = true ∧ nmB (L (q + 2 * j + 1)) = true
  | 0, q, hf, hq, _, _ => by omega
  | f + 1, q, hf, hq, hs, hno => by
    by_cases e : q = p
    · exact ⟨0, by omega, fun j hj => absurd hj (Nat.not_lt_zero j)⟩
    · have a1 := wf_7 W (by omega) hs (hno q (Nat.le_refl _) (by omega))
      have a2 := wf_6 W (by omega) a1.2.2
      have ne : ¬ q + 1 = p := fun k => nm_59 a2.2.1 (by rw [k]; exact h59)
      obtain ⟨J, j1, j2⟩ := chain_shp W hp h59 f (q + 1 + 1) (by omega) (by omega) a2.2.2 (fun i h1 h2 => hno i (by omega) h2)
      refine ⟨J + 1, by omega, fun j hj => ?_⟩
      cases j with
      | zero => exact ⟨a1.2.1, a2.2.1⟩
      | succ j =>
        have := j2 j (by omega)
        rw [show q + 2 * (j + 1) = q + 1 + 1 + 2 * j by omega]
        exact this
theorem shape (W : wfL L n) {a p : Nat} (ha : sa L a = 0) (hap : a ≤ p) (hp : p < n) (h59 : L p = 59) (hno : ∀ i, a ≤ i → i < p → ¬ L i = 59) : shp L a p := by
  have lt : a < n := by omega
  have g := W.1 a lt
  have ne : ∀ i, a ≤ i → ¬ L i = 59 → ¬ i = p := fun i _ q e => q (by rw [e]; exact h59)
  have le : ∀ i, a ≤ i → L i = 59 → p ≤ i := fun i h1 q => by
    cases Nat.lt_or_ge i p with
    | inl k => exact absurd q (hno i h1 k)
    | inr k => exact k
  rw [sa_s, ha, ax_0] at g
  unfold shp
  by_cases e42 : L a = 42
  · have s1 : sa L (a + 1) = 1 := by rw [sa_s, ha, ax_0, if_pos e42]
    have d1 := wf_dg W (by omega) s1 (by omega) (by omega)
    have d2 := wf_dg W (by omega) d1.2.2 (by omega) (by omega)
    have d3 := wf_dg W (by omega) d2.2.2 (by omega) (by omega)
    have d4 := wf_4 W (by omega) d3.2.2
    have n0 := ne a (by omega) (by omega)
    have n1 := ne (a + 1) (by omega) (dg_59 d1.2.1)
    have n2 := ne (a + 1 + 1) (by omega) (dg_59 d2.2.1)
    have n3 := ne (a + 1 + 1 + 1) (by omega) (dg_59 d3.2.1)
    have n4 := le (a + 1 + 1 + 1 + 1) (by omega) d4.2
    exact Or.inl ⟨e42, by omega, d1.2.1, d2.2.1, d3.2.1⟩
  · rw [if_neg e42] at g
    by_cases e109 : L a = 109
    · have s1 : sa L (a + 1) = 3 := by rw [sa_s, ha, ax_0, if_neg e42, if_pos e109]
      have d1 := wf_dg W (by omega) s1 (by omega) (by omega)
      have d4 := wf_4 W (by omega) d1.2.2
      have n0 := ne a (by omega) (by omega)
      have n1 := ne (a + 1) (by omega) (dg_59 d1.2.1)
      have n4 := le (a + 1 + 1) (by omega) d4.2
      exact Or.inr (Or.inl ⟨e109, by omega, d1.2.1⟩)
    · rw [if_neg e109] at g
      cases z : nmB (L a)
      · rw [z] at g; exact absurd rfl g
      · have s1 : sa L (a + 1) = 5 := by rw [sa_s, ha, ax_0, if_neg e42, if_neg e109, if_pos z]
        have lt1 : a + 1 < n := by
          cases Nat.lt_or_eq_of_le (show a + 1 ≤ n by omega) with
          | inl q => exact q
          | inr q => rw [q, W.2.1] at s1; omega
        have g1 := W.1 (a + 1) lt1
        rw [sa_s, s1, ax_5] at g1
        have n0 := ne a (by omega) (nm_59 z)
        by_cases e58 : L (a + 1) = 58
        · have s2 : sa L (a + 1 + 1) = 2 := by rw [sa_s, s1, ax_5, if_pos e58]
          have d2 := wf_dg W (by omega) s2 (by omega) (by omega)
          have d3 := wf_dg W (by omega) d2.2.2 (by omega) (by omega)
          have d4 := wf_4 W (by omega) d3.2.2
          have n1 := ne (a + 1) (by omega) (by omega)
          have n2 := ne (a + 1 + 1) (by omega) (dg_59 d2.2.1)
          have n3 := ne (a + 1 + 1 + 1) (by omega) (dg_59 d3.2.1)
          have n4 := le (a + 1 + 1 + 1 + 1) (by omega) d4.2
          exact Or.inr (Or.inr (Or.inl ⟨rfl, e58, by omega, d2.2.1, d3.2.1⟩))
        · rw [if_neg e58] at g1
          by_cases e33 : L (a + 1) = 33
          · have s2 : sa L (a + 1 + 1) = 4 := by rw [sa_s, s1, ax_5, if_neg e58, if_pos e33]
            have d4 := wf_4 W (by omega) s2
            have n1 := ne (a + 1) (by omega) (by omega)
            have n4 := le (a + 1 + 1) (by omega) d4.2
            exact Or.inr (Or.inr (Or.inr (Or.inl ⟨rfl, e33, by omega⟩)))
          · rw [if_neg e33] at g1
            cases y : lkB (L (a + 1))
            · rw [y] at g1; exact absurd rfl g1
            · have s2 : sa L (a + 1 + 1) = 6 := by rw [sa_s, s1, ax_5, if_neg e58, if_neg e33, if_pos y]
              have d2 := wf_6 W (by omega) s2
              have n1 := ne (a + 1) (by omega) (lk_59 y)
              have n2 := ne (a + 1 + 1) (by omega) (nm_59 d2.2.1)
              obtain ⟨J, j1, j2⟩ := chain_shp W hp h59 (p + 1) (a + 1 + 1 + 1) (by omega) (by omega) d2.2.2 (fun i h1 h2 => hno i (by omega) h2)
              refine Or.inr (Or.inr (Or.inr (Or.inr ⟨rfl, J + 1, by omega, by omega, fun j hj => ?_⟩)))
              cases j with
              | zero => exact ⟨y, d2.2.1⟩
              | succ j =>
                have := j2 j (by omega)
                rw [show a + 2 * (j + 1) + 1 = a + 1 + 1 + 1 + 2 * j by omega, show a + 2 * (j + 1) + 2 = a + 1 + 1 + 1 + 2 * j + 1 by omega]
                exact this
end SHP
theorem arr_ok {h h' : Nat → Nat} (H : hv h) {x o y : Nat} (e : arr h x o y = some h') : hv h' ∧ h' 42 = h 42 ∧ x < h 42 ∧ y < h 42 ∧ ¬ x = y := by
  have h8 := H.1
  unfold arr at e
  split at e
  · next q =>
    have r := H.2.2.2 x (by omega)
    split at e
    · cases e
      refine ⟨H.set_at q.1 (Nat.or_lt_two_pow r.2.1.1 (pw_lt q.2.1)) ?_, upN_n _ (by omega), q⟩
      rw [Nat.testBit_or, r.2.2.1, tb_pw, decide_eq_false (fun k => q.2.2 k.symm)]
      rfl
    · cases e
      exact ⟨H.set_su q.1 (Nat.or_lt_two_pow r.2.1.2 (pw_lt q.2.1)), upN_n _ (by omega), q⟩
  · cases e
theorem chR_ok {L h : Nat → Nat} (H : hv h) {a : Nat} : ∀ j h', chR L h a j = some h' → hv h' ∧ h' 42 = h 42
  | 0, h', e => by cases e; exact ⟨H, rfl⟩
  | j + 1, h', e => by
    rw [chR] at e
    cases z : chR L h a j with
    | none => rw [z] at e; cases e
    | some x =>
      rw [z] at e
      have ih := chR_ok H j x z
      have r := arr_ok ih.1 e
      exact ⟨r.1, by rw [r.2.1, ih.2]⟩
theorem chR_no {L h : Nat → Nat} {a j : Nat} (e : chR L h a j = none) : ∀ i, chR L h a (j + i) = none
  | 0 => e
  | i + 1 => by
    show chR L h a (j + i + 1) = none
    rw [chR, chR_no e i]
theorem chR_s {L h x : Nat → Nat} {a j : Nat} (e : chR L h a j = some x) : chR L h a (j + 1) = arr x (L (a + 2 * j) - 97) (L (a + 2 * j + 1)) (L (a + 2 * j + 2) - 97) := by rw [chR, e]
theorem eff_ok {L h h' : Nat → Nat} (H : hv h) {a p : Nat} (S : shp L a p) (e : eff L h a p = some h') : hv h' := by
  have h8 := H.1
  have dl : ∀ l, dgB l = true → l - 48 ≤ 9 := fun l q => by have := of_decide_eq_true q; omega
  unfold eff at e
  rcases S with ⟨s0, -, s1, s2, s3⟩ | ⟨s0, -, s1⟩ | ⟨s0, s1, -, s2, s3⟩ | ⟨s0, s1, -⟩ | ⟨s0, J, s1, -, s2⟩
  · rw [if_pos s0] at e
    split at e
    · next q => cases e; exact adn_ok H q.2 q.1 (dl _ s2) (dl _ s3)
    · cases e
  · rw [if_neg (by omega), if_pos s0] at e
    split at e
    · next q => cases e; exact H.set_md (by omega)
    · cases e
  · have := of_decide_eq_true s0
    rw [if_neg (by omega), if_neg (by omega)] at e
    split at e
    · next q =>
      split at e
      · next q2 =>
        cases e
        have k := (H.set_kd q q2).set_fg (a := L a - 97) (v := L (a + 3) - 48) (by rw [upN_n _ (by omega)]; exact q) (dl _ s3)
        exact k
      · cases e
    · cases e
  · have := of_decide_eq_true s0
    rw [if_neg (by omega), if_neg (by omega)] at e
    by_cases q : L a - 97 < h 42
    · rw [if_pos q, if_neg (by omega), if_pos s1] at e
      cases e
      exact H.set_hd (Nat.xor_lt_two_pow H.2.2.1 (pw_lt q))
    · rw [if_neg q] at e
      cases e
  · have := of_decide_eq_true s0
    have k := s2 0 (by omega)
    have k2 := lk_ne k.1
    rw [if_neg (by omega), if_neg (by omega)] at e
    split at e
    · rw [if_neg k2.1, if_neg k2.2] at e
      exact (chR_ok H _ _ e).1
    · cases e

/-! all statements, one after another -/
def fs (L : Nat → Nat) (h : Nat → Nat) : Nat → (Nat → Nat) × Nat × Bool
  | 0 => (h, 0, true)
  | i + 1 => if (fs L h i).2.2 then (if L i = 59 then (match eff L (fs L h i).1 (fs L h i).2.1 i with
      | some x => (x, i + 1, true)
      | none => ((fs L h i).1, (fs L h i).2.1, false)) else fs L h i) else fs L h i
section FSS
variable {L : Nat → Nat} {n : Nat} {h : Nat → Nat}
theorem fs_dead {i : Nat} (e : (fs L h i).2.2 = false) : ∀ j, fs L h (i + j) = fs L h i
  | 0 => rfl
  | j + 1 => by
    show fs L h (i + j + 1) = _
    rw [fs, fs_dead e j, e]
    rfl
theorem fs_skip {i : Nat} (e : ¬ L i = 59) : fs L h (i + 1) = fs L h i := by
  rw [fs, if_neg e]
  split <;> rfl
theorem fs_some {i : Nat} {x : Nat → Nat} (t : (fs L h i).2.2 = true) (e : L i = 59) (q : eff L (fs L h i).1 (fs L h i).2.1 i = some x) : fs L h (i + 1) = (x, i + 1, true) := by rw [fs, if_pos t, if_pos e, q]
theorem fs_no {i : Nat} (t : (fs L h i).2.2 = true) (e : L i = 59) (q : eff L (fs L h i).1 (fs L h i).2.1 i = none) : fs L h (i + 1) = ((fs L h i).1, (fs L h i).2.1, false) := by rw [fs, if_pos t, if_pos e, q]
theorem fs_inv (W : wfL L n) (H : hv h) : ∀ i, i ≤ n → (fs L h i).2.2 = true → ((fs L h i).2.1 ≤ i ∧ sa L (fs L h i).2.1 = 0 ∧ ∀ j, (fs L h i).2.1 ≤ j → j < i → ¬ L j = 59) ∧ hv (fs L h i).1
  | 0, _, _ => ⟨⟨Nat.le_refl _, rfl, fun j _ hj => absurd hj (Nat.not_lt_zero j)⟩, H⟩
  | i + 1, hi, t => by
    cases z : (fs L h i).2.2
    · rw [fs_dead z 1, z] at t; cases t
    · have ih := fs_inv W H i (by omega) z
      by_cases e : L i = 59
      · cases q : eff L (fs L h i).1 (fs L h i).2.1 i with
        | none => rw [fs_no z e q] at t; cases t
        | some x =>
          rw [fs_some z e q]
          have S := shape W ih.1.2.1 ih.1.1 (by omega) e (fun j h1 h2 => ih.1.2.2 j h1 h2)
          refine ⟨⟨Nat.le_refl _, ?_, fun j h1 h2 => by have : i + 1 ≤ j := h1; omega⟩, eff_ok ih.2 S q⟩
          show sa L (i + 1) = 0
          have g := W.1 i (by omega)
          rw [sa_s, e] at g ⊢
          rcases ax_59 (sa L i) with k | k
          · exact k
          · exact absurd k g
      · rw [fs_skip e]
        refine ⟨⟨by omega, ih.1.2.1, fun j h1 h2 => ?_⟩, ih.2⟩
        by_cases y : j = i
        · subst y; exact e
        · exact ih.1.2.2 j h1 (by omega)
def rdA (L : Nat → Nat) (n : Nat) (h : Nat → Nat) : Int32 := match bdp L n with
  | some i => -1000 - nI i
  | none => if (fs L h n).2.2 then nI (cn L n) else -2000 - nI (fs L h n).2.1
def rdH (L : Nat → Nat) (n : Nat) (h : Nat → Nat) : Nat → Nat := match bdp L n with
  | some _ => h
  | none => if (fs L h n).2.2 then (fs L h n).1 else h
theorem cn_s (i : Nat) : cn L (i + 1) = cn L i + (if L i = 59 then 1 else 0) := by
  unfold cn
  rw [cnt]
  by_cases e : L i = 59
  · rw [if_pos e, decide_eq_true e]; rfl
  · rw [if_neg e, decide_eq_false e]; rfl
theorem s_applied {g : Nat → Int32} (hn : n ≤ 96) (hg : ag n g L) (hL : ∀ k, k < n → L k < 256) (W : wfL L n) (H : hv h) {sz hr md : Int32} {ca fi vo at_ su : Int64} (e : HC h sz hr md ca fi vo at_ su) {d1 d2 d3 : Int32} {d4 d5 d6 d7 d8 : Int64} {post : Int32 → Int32 → Int32 → Int32 → Int64 → Int64 → Int64 → Int64 → Int64 → Int32 → Int32 → Int32 → Int64 → Int64 → Int64 → Int64 → Int64 → Prop} (hok : (fs L h n).2.2 = true → ∀ d1 d2 d3 d4 d5 d6 d7 d8 sz hr md ca fi vo at_ su, HC (fs L h n).1 sz hr md ca fi vo at_ su → post (nI (cn L n)) d1 d2 d3 d4 d5 d6 d7 d8 sz hr md ca fi vo at_ su) (hno : (fs L h n).2.2 = false → ∀ d1 d2 d3 d4 d5 d6 d7 d8, post (-2000 - nI (fs L h n).2.1) d1 d2 d3 d4 d5 d6 d7 d8 sz hr md ca fi vo at_ su) : wp_X5_applied post g (nI n) d1 d2 d3 d4 d5 d6 d7 d8 sz hr md ca fi vo at_ su := by
  unfold wp_X5_applied wp_X3_take
  refine lo10 (fun m i v u d1 d2 d3 d4 d5 d6 d7 d8 => wp_X5_applied_15 post g (nI n) m v u (nI i) d1 d2 d3 d4 d5 d6 d7 d8 sz hr md ca fi vo at_ su) (fun i v u d1 d2 d3 d4 d5 d6 d7 d8 => (v = nI (cn L i) ∧ u = nI (fs L h i).2.1) ∧ (fs L h i).2.2 = true ∧ HC (fs L h i).1 d1 d2 d3 d4 d5 d6 d7 d8) n _ _ _ _ _ _ _ _ _ _ ⟨⟨rfl, rfl⟩, rfl, e⟩ ?_ ?_
  · rintro m v u d1 d2 d3 d4 d5 d6 d7 d8 ⟨⟨rfl, rfl⟩, t, q⟩
    show wp_X5_applied_15 _ _ _ _ _ _ _ _ _ _ _ _ _ _ _ _ _ _ _ _ _ _ _
    unfold wp_X5_applied_15 wp_X3_take
    exact wt (nI_le (Nat.le_refl _) (by omega)) (hok t _ _ _ _ _ _ _ _ _ _ _ _ _ _ _ _ q)
  · rintro m i v u d1 d2 d3 d4 d5 d6 d7 d8 hi ⟨⟨rfl, rfl⟩, t, q⟩ ih
    show wp_X5_applied_15 _ _ _ _ _ _ _ _ _ _ _ _ _ _ _ _ _ _ _ _ _ _ _
    unfold wp_X5_applied_15
    have I := fs_inv W H i (by omega) t
    refine wf (nI_ge hi (by omega)) ?_
    rw [nS i, nS (cn L i)]
    refine s_letAt hn (by decide) hg (by omega) ?_
    rw [if_pos hi]
    have li := hL i hi
    refine wc2 (nI_eq (by omega) (by decide)) (fun e9 => ?_) (fun e9 => ih _ _ _ _ _ _ _ _ _ _ ⟨⟨?_, ?_⟩, ?_, ?_⟩)
    · have S := shape W I.1.2.1 I.1.1 hi e9 (fun j h1 h2 => I.1.2.2 j h1 h2)
      refine s_apply hn hg hL I.2 q S hi (fun h' k d1 d2 d3 d4 d5 d6 d7 d8 q2 => ?_) (fun k d1 d2 d3 d4 d5 d6 d7 d8 => ?_)
      · have f := fs_some t e9 k
        refine wf2 n1_0 (ih _ _ _ _ _ _ _ _ _ _ ⟨⟨?_, ?_⟩, ?_, ?_⟩)
        · rw [cn_s, if_pos e9]
        · rw [f]
        · rw [f]
        · rw [f]; exact q2
      · have f := fs_no t e9 k
        have f2 := fs_dead (show (fs L h (i + 1)).2.2 = false by rw [f]) (n - (i + 1))
        rw [show i + 1 + (n - (i + 1)) = n by omega, f] at f2
        rw [f2] at hno
        exact wt2 rfl (hno rfl _ _ _ _ _ _ _ _)
    · rw [cn_s, if_neg e9]; rfl
    · rw [fs_skip e9]
    · rw [fs_skip e9]; exact t
    · rw [fs_skip e9]; exact q
theorem s_read {g : Nat → Int32} (hn : n ≤ 96) (hg : ag n g L) (hL : ∀ k, k < n → L k < 256) (H : hv h) {sz hr md : Int32} {ca fi vo at_ su : Int64} (e : HC h sz hr md ca fi vo at_ su) {d1 d2 d3 : Int32} {d4 d5 d6 d7 d8 : Int64} {post : Int32 → Int32 → Int32 → Int32 → Int64 → Int64 → Int64 → Int64 → Int64 → Int32 → Int32 → Int32 → Int64 → Int64 → Int64 → Int64 → Int64 → Prop} (hp : ∀ d1 d2 d3 d4 d5 d6 d7 d8 sz hr md ca fi vo at_ su, HC (rdH L n h) sz hr md ca fi vo at_ su → post (rdA L n h) d1 d2 d3 d4 d5 d6 d7 d8 sz hr md ca fi vo at_ su) : wp_X5_read post g (nI n) d1 d2 d3 d4 d5 d6 d7 d8 sz hr md ca fi vo at_ su := by
  unfold wp_X5_read
  refine s_badPlace hn hg hL ?_
  unfold rdA rdH at hp
  cases b : bdp L n with
  | some i =>
    rw [b] at hp
    have li : i ≤ n := by
      unfold bdp at b
      cases z : frs (bdB L) n with
      | some y => have := frs_lt n y z; rw [z] at b; cases b; omega
      | none =>
        rw [z] at b
        simp only at b
        split at b
        · cases b
        · cases b; exact Nat.le_refl _
    exact wf (nI_pos (show i < 2 ^ 31 by omega)) (hp _ _ _ _ _ _ _ _ _ _ _ _ _ _ _ _ e)
  | none =>
    rw [b] at hp
    refine wt (show (-1 : Int32) < 0 by decide +kernel) ?_
    refine s_applied hn hg hL (bdp_wf b) H e (fun t d1 d2 d3 d4 d5 d6 d7 d8 sz hr md ca fi vo at_ su q => ?_) (fun t d1 d2 d3 d4 d5 d6 d7 d8 => ?_)
    · simp only [t, if_true] at hp
      exact hp _ _ _ _ _ _ _ _ _ _ _ _ _ _ _ _ q
    · simp only [t, Bool.false_eq_true, if_false] at hp
      exact hp _ _ _ _ _ _ _ _ _ _ _ _ _ _ _ _ e
end FSS

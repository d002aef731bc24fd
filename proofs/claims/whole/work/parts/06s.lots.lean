/-! lots -/
def stp (z : Int32) : Int32 := z * (1664525 : Int32) + (1013904223 : Int32)
def drB (z : Int32) : Bool := decide (((z &&& (2147483647 : Int32)) / (nI 256)) - ((z &&& (2147483647 : Int32)) / (nI 256)) / (nI 4) * (nI 4) = 0)
def dr1 (a : Nat) (z : Int32) : Nat → Int32 × Nat
  | 0 => (z, 0)
  | b + 1 => if a = b then dr1 a z b else (stp (dr1 a z b).1, if drB (stp (dr1 a z b).1) then (dr1 a z b).2 ||| 2 ^ b else (dr1 a z b).2)
def dr2 (m : Nat) (z : Int32) : Nat → Int32 × (Nat → Nat)
  | 0 => (z, fun _ => 0)
  | a + 1 => ((dr1 a (dr2 m z a).1 m).1, upN (dr2 m z a).2 a (dr1 a (dr2 m z a).1 m).2)
theorem dr1_s (a : Nat) (z : Int32) (b : Nat) : dr1 a z (b + 1) = if a = b then dr1 a z b else (stp (dr1 a z b).1, if drB (stp (dr1 a z b).1) then (dr1 a z b).2 ||| 2 ^ b else (dr1 a z b).2) := rfl
theorem dr1_lt (a : Nat) (z : Int32) : ∀ b, (dr1 a z b).2 < 2 ^ b
  | 0 => show (0 : Nat) < 2 ^ 0 by decide
  | b + 1 => by
    have ih := dr1_lt a z b
    have l2 : 2 ^ b < 2 ^ (b + 1) := pw_lt (Nat.lt_succ_self b)
    rw [dr1_s]
    split
    · omega
    · show (if _ then _ else _) < _
      split
      · exact Nat.or_lt_two_pow (by omega) l2
      · omega
theorem dr1_self (a : Nat) (z : Int32) : ∀ b, (dr1 a z b).2.testBit a = false
  | 0 => Nat.zero_testBit a
  | b + 1 => by
    have ih := dr1_self a z b
    rw [dr1_s]
    split
    · exact ih
    · next q =>
      show (if _ then _ else _ : Nat).testBit a = false
      split
      · rw [Nat.testBit_or, ih, tb_pw, decide_eq_false (fun k => q k.symm)]; rfl
      · exact ih
theorem dr2_ok (m : Nat) (z : Int32) : ∀ a i, (dr2 m z a).2 i < 2 ^ m ∧ ((dr2 m z a).2 i).testBit i = false ∧ (a ≤ i → (dr2 m z a).2 i = 0)
  | 0, i => ⟨Nat.pow_pos (by decide), Nat.zero_testBit i, fun _ => rfl⟩
  | a + 1, i => by
    show upN _ a _ i < _ ∧ (upN _ a _ i).testBit i = false ∧ (a + 1 ≤ i → upN _ a _ i = 0)
    by_cases e : i = a
    · subst e
      rw [upN_s]
      exact ⟨dr1_lt _ _ _, dr1_self _ _ _, fun q => by omega⟩
    · rw [upN_n _ e]
      have ih := dr2_ok m z a i
      exact ⟨ih.1, ih.2.1, fun q => ih.2.2 (by omega)⟩
def hat (h f : Nat → Nat) (j : Nat) : Nat := if 24 ≤ j ∧ j < 32 then f (j - 24) else h j
theorem hat_n {h f : Nat → Nat} {j : Nat} (q : ¬ (24 ≤ j ∧ j < 32)) : hat h f j = h j := if_neg q
theorem hat_a {h f : Nat → Nat} {c : Nat} (hc : c < 8) : hat h f (24 + c) = f c := by
  unfold hat
  rw [if_pos (by omega)]
  congr 1
  omega
section LOT
variable {h : Nat → Nat}
theorem hat_ok (H : hv h) (z : Int32) : hv (hat h (dr2 (h 42) z (h 42)).2) := by
  obtain ⟨h1, h2, h3, h4⟩ := H
  have e40 : hat h (dr2 (h 42) z (h 42)).2 40 = h 40 := hat_n (by omega)
  have e41 : hat h (dr2 (h 42) z (h 42)).2 41 = h 41 := hat_n (by omega)
  have e42 : hat h (dr2 (h 42) z (h 42)).2 42 = h 42 := hat_n (by omega)
  refine ⟨by rw [e42]; exact h1, by rw [e41]; exact h2, by rw [e40, e42]; exact h3, fun c hc => ?_⟩
  have q := h4 c hc
  have r := dr2_ok (h 42) z (h 42) c
  rw [e42, hat_a hc, hat_n (j := c) (by omega), hat_n (j := 8 + c) (by omega), hat_n (j := 16 + c) (by omega), hat_n (j := 32 + c) (by omega)]
  exact ⟨q.1, ⟨r.1, q.2.1.2⟩, r.2.1, fun k => ⟨(q.2.2.2 k).1, r.2.2 k, (q.2.2.2 k).2.2⟩⟩
theorem HC.hat {sz hr md : Int32} {ca fi vo at_ su : Int64} (e : HC h sz hr md ca fi vo at_ su) (f : Nat → Nat) : HC (hat h f) sz hr md ca fi vo (pL f) su := by
  obtain ⟨rfl, rfl, rfl, rfl, rfl, rfl, rfl, rfl⟩ := e
  exact ⟨by rw [hat_n (by omega)], by rw [hat_n (by omega)], by rw [hat_n (by omega)], pL_congr (fun i hi => (hat_n (by omega)).symm), pL_congr (fun i hi => (hat_n (by omega)).symm), pL_congr (fun i hi => (hat_n (by omega)).symm), pL_congr (fun i hi => (hat_a hi).symm), pL_congr (fun i hi => (hat_n (by omega)).symm)⟩
theorem xor_new {r b : Nat} (h : r < 2 ^ b) : r ^^^ 2 ^ b = r ||| 2 ^ b := Nat.eq_of_testBit_eq (fun i => by
  rw [Nat.testBit_xor, Nat.testBit_or, tb_pw]
  by_cases e : b = i
  · subst e; rw [Nat.testBit_lt_two_pow h]; simp
  · rw [decide_eq_false e]; simp)
theorem s_drawAttacks {m : Nat} (hm : m ≤ 8) {z : Int32} {a0 : Int64} {post : Int32 → Int64 → Prop} (hp : post (dr2 m z m).1 (pL (dr2 m z m).2)) : wp_X8_drawAttacks post (nI m) a0 z := by
  unfold wp_X8_drawAttacks
  rw [pL_z]
  refine lo2 (fun n a v at_ => wp_X8_drawAttacks_12 post (nI m) z n v (nI a) at_) (fun a v at_ => v = (dr2 m z a).1 ∧ at_ = pL (dr2 m z a).2) m _ _ ⟨rfl, rfl⟩ ?_ ?_
  · rintro n v at_ ⟨rfl, rfl⟩
    show wp_X8_drawAttacks_12 _ _ _ _ _ _ _
    unfold wp_X8_drawAttacks_12
    exact wt (nI_le (Nat.le_refl _) (by omega)) hp
  · rintro n a v at_ ha ⟨rfl, rfl⟩ ih
    show wp_X8_drawAttacks_12 _ _ _ _ _ _ _
    unfold wp_X8_drawAttacks_12
    refine wf (nI_ge ha (by omega)) ?_
    have h0 : pL (dr2 m z a).2 = pL (upN (dr2 m z a).2 a (dr1 a (dr2 m z a).1 0).2) := pL_congr (fun i hi => by
      by_cases q : i = a
      · subst q; rw [upN_s]; exact (dr2_ok m z i i).2.2 (Nat.le_refl _)
      · rw [upN_n _ q])
    refine lo2 (fun k b v at_ => wp_X8_drawAttacks_26 post (nI m) z (wp_X8_drawAttacks_12 post (nI m) z n) k v (nI a) (nI b) at_) (fun b v at_ => v = (dr1 a (dr2 m z a).1 b).1 ∧ at_ = pL (upN (dr2 m z a).2 a (dr1 a (dr2 m z a).1 b).2)) m _ _ ⟨rfl, h0⟩ ?_ ?_
    · rintro k v at_ ⟨rfl, rfl⟩
      show wp_X8_drawAttacks_26 _ _ _ _ _ _ _ _ _
      unfold wp_X8_drawAttacks_26
      refine wt (nI_le (Nat.le_refl _) (by omega)) ?_
      rw [nS a]
      exact ih _ _ ⟨rfl, rfl⟩
    · rintro k b v at_ hb ⟨rfl, rfl⟩ ih2
      show wp_X8_drawAttacks_26 _ _ _ _ _ _ _ _ _
      unfold wp_X8_drawAttacks_26
      refine wf (nI_ge hb (by omega)) ?_
      rw [nS b]
      refine wc (nI_eq (by omega) (by omega)) (fun q => ih2 _ _ ⟨?_, ?_⟩) (fun q => ?_)
      · rw [dr1_s, if_pos q]
      · rw [dr1_s, if_pos q]
      · refine wc2 (Q := drB (stp (dr1 a (dr2 m z a).1 b).1) = true) ⟨fun c => decide_eq_true c, fun c => of_decide_eq_true c⟩ (fun c => ?_) (fun c => ih2 _ _ ⟨?_, ?_⟩)
        · unfold wp_X3_flipAttack
          refine s_pair (by omega) (by omega) ?_
          unfold pL
          rw [lx_xor, pk_xorp (by omega) (by omega)]
          refine ih2 _ _ ⟨?_, ?_⟩
          · rw [dr1_s, if_neg q]; rfl
          · rw [dr1_s, if_neg q, upN_s]
            refine pL_congr (fun i hi => ?_)
            by_cases y : i = a
            · subst y
              rw [upN_s, upN_s, xor_new (dr1_lt _ _ _)]
              exact (if_pos c).symm
            · rw [upN_n _ y, upN_n _ y, upN_n _ y]
        · rw [dr1_s, if_neg q]; rfl
        · rw [dr1_s, if_neg q]
          simp only [if_neg c]
def lts (h : Nat → Nat) (z : Int32) (w : Bool) : Nat → (Int32 × (Nat → Nat)) × Nat
  | 0 => ((z, h), 0)
  | k + 1 => (((dr2 (h 42) (lts h z w k).1.1 (h 42)).1, hat (lts h z w k).1.2 (dr2 (h 42) (lts h z w k).1.1 (h 42)).2), (lts h z w k).2 + (if w then cnt (staB (hat (lts h z w k).1.2 (dr2 (h 42) (lts h z w k).1.1 (h 42)).2)) 256 else pc (tI (hat (lts h z w k).1.2 (dr2 (h 42) (lts h z w k).1.1 (h 42)).2)) 8))
theorem lts_ok (H : hv h) (z : Int32) (w : Bool) : ∀ k, hv (lts h z w k).1.2 ∧ (lts h z w k).1.2 42 = h 42
  | 0 => ⟨H, rfl⟩
  | k + 1 => by
    have ih := lts_ok H z w k
    refine ⟨?_, ?_⟩
    · show hv (hat _ (dr2 (h 42) _ (h 42)).2)
      rw [← ih.2]
      exact hat_ok ih.1 _
    · show hat (lts h z w k).1.2 (dr2 (h 42) (lts h z w k).1.1 (h 42)).2 42 = h 42
      rw [hat_n (by omega)]
      exact ih.2
theorem s_drawn (H : hv h) {sz hr md : Int32} {ca fi vo at_ su : Int64} (e : HC h sz hr md ca fi vo at_ su) {N : Nat} (hN : N < 2 ^ 31) {z : Int32} {w : Bool} {d1 d2 d3 : Int32} {d4 d5 d6 d7 d8 : Int64} {s1 s2 s3 s4 : Int64} {t1 t2 t3 : Int32} {t4 : Int64} {post : Int32 → Int32 → Int32 → Int32 → Int64 → Int64 → Int64 → Int64 → Int64 → Int64 → Int64 → Int64 → Int64 → Int32 → Int32 → Int32 → Int64 → Prop} (hp : ∀ d1 d2 d3 d4 d5 d6 d7 d8 s1 s2 s3 s4 t1 t2 t3 t4, post (nI (lts h z w N).2) d1 d2 d3 d4 d5 d6 d7 d8 s1 s2 s3 s4 t1 t2 t3 t4) : wp_X8_drawn post d1 d2 d3 d4 d5 d6 d7 d8 s1 s2 s3 s4 t1 t2 t3 t4 sz hr md ca fi vo at_ su (nI N) z (zI w) := by
  have h8 := H.1
  have he := e
  obtain ⟨rfl, rfl, rfl, rfl, rfl, rfl, rfl, rfl⟩ := e
  unfold wp_X8_drawn wp_X3_take
  refine lo18 (fun n i v y d1 d2 d3 d4 d5 d6 d7 d8 s1 s2 s3 s4 t1 t2 t3 t4 => wp_X8_drawn_17 post (nI (h 42)) (nI (h 40)) (nI (h 41)) (pL (fun c => h c)) (pL (fun c => h (8 + c))) (pL (fun c => h (16 + c))) (pL (fun c => h (24 + c))) (pL (fun c => h (32 + c))) (nI N) z (zI w) n v y (nI i) d1 d2 d3 d4 d5 d6 d7 d8 s1 s2 s3 s4 t1 t2 t3 t4) (fun i v y d1 d2 d3 d4 d5 d6 d7 d8 s1 s2 s3 s4 t1 t2 t3 t4 => (v = (lts h z w i).1.1 ∧ y = nI (lts h z w i).2) ∧ HC (lts h z w i).1.2 d1 d2 d3 d4 d5 d6 d7 d8) N _ _ _ _ _ _ _ _ _ _ _ _ _ _ _ _ _ _ ⟨⟨rfl, rfl⟩, he⟩ ?_ ?_
  · rintro n v y d1 d2 d3 d4 d5 d6 d7 d8 s1 s2 s3 s4 t1 t2 t3 t4 ⟨⟨rfl, rfl⟩, _⟩
    show wp_X8_drawn_17 _ _ _ _ _ _ _ _ _ _ _ _ _ _ _ _ _ _ _ _ _ _ _ _ _ _ _ _ _ _ _ _
    unfold wp_X8_drawn_17
    exact wt (nI_le (Nat.le_refl _) hN) (hp _ _ _ _ _ _ _ _ _ _ _ _ _ _ _ _)
  · rintro n i v y d1 d2 d3 d4 d5 d6 d7 d8 s1 s2 s3 s4 t1 t2 t3 t4 hi ⟨⟨rfl, rfl⟩, q⟩ ih
    show wp_X8_drawn_17 _ _ _ _ _ _ _ _ _ _ _ _ _ _ _ _ _ _ _ _ _ _ _ _ _ _ _ _ _ _ _ _
    unfold wp_X8_drawn_17
    refine wf (nI_ge hi hN) ?_
    have ok := lts_ok H z w i
    have ok2 := (lts_ok H z w (i + 1)).1
    have q42 : d1 = nI (h 42) := by rw [q.1, ok.2]
    rw [nS i, q42]
    refine s_drawAttacks h8 ?_
    have q2 := q.hat (dr2 (h 42) (lts h z w i).1.1 (h 42)).2
    rw [q42] at q2
    refine zc (fun k => ?_) (fun k => ?_)
    · refine s_draftIn ok2 q2 ?_
      intro _ _ _ _ _
      refine s_bitCount (tI_lt ok2) ?_
      rw [nI_add]
      refine ih _ _ _ _ _ _ _ _ _ _ _ _ _ _ _ _ _ _ ⟨⟨rfl, ?_⟩, q2⟩
      rw [k]; rfl
    · refine s_draftStable ok2 q2 ?_
      intro _ _ _ _
      rw [nI_add]
      refine ih _ _ _ _ _ _ _ _ _ _ _ _ _ _ _ _ _ _ ⟨⟨rfl, ?_⟩, q2⟩
      rw [k]; rfl
end LOT

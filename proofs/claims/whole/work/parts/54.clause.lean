/-! ===== PURE: a clause ===== -/
/-- the reference, over one expression -/
def GE (j x : Nat) (τ τ' : St) : Prop := (∀ f, f ≠ 13 → f ≠ 14 → f ≠ 23 → f ≠ 24 → f ≠ 25 → vI τ' 0 f = vI τ 0 f) ∧ (∀ k, ¬ (12 ≤ k ∧ k ≤ 15) → vJ τ' k = vJ τ k) ∧ (∀ i, i ≠ x → vJ τ' 12 i = vJ τ 12 i ∧ vJ τ' 13 i = vJ τ 13 i) ∧ (∀ i, i < 100 * j → vJ τ' 14 i = vJ τ 14 i) ∧ (∀ k, vL τ' k = vL τ k)
theorem expr2 {T : Nat → Nat} {s r j x a : Nat} {L : List Nat} {σ τ : St} (hx : x < 60) (hj : j < 6) (hX : XT T s a σ) (hXL : XL r L σ) (hM : MT T s a τ) (hl : L.length + 6 ≤ a) (h23 : vI τ 0 23 = nI (100 * j + L.length)) (htk : ∀ k t, L[k]? = some t → vJ τ 14 (100 * j + k) = me t) :
    (∃ σ' K a' τ', (F_EF 12).1 84 0 σ = some (true, σ') ∧ f_M_takesE 0 (nI x) τ = some (true, τ') ∧ a < a' ∧ XT T s a' σ' ∧ XL r (L ++ K) σ' ∧ MT T s a' τ' ∧ (L ++ K).length ≤ a' ∧ vI τ' 0 23 = nI (100 * j + (L ++ K).length) ∧ (∀ k t, (L ++ K)[k]? = some t → vJ τ' 14 (100 * j + k) = me t) ∧ vJ τ' 12 x = nI (100 * j + L.length) ∧ vJ τ' 13 x = nI (100 * j + (L ++ K).length) ∧ FE r σ σ' ∧ GE j x τ τ' ∧ dep K 0 = some 1) ∨
    (∃ σ' a' τ', (F_EF 12).1 84 0 σ = some (false, σ') ∧ f_M_takesE 0 (nI x) τ = some (false, τ') ∧ XT T s a' σ' ∧ MT T s a' τ' ∧ FE r σ σ' ∧ GE j x τ τ') := by
  have hE : EiS (F_EF 12).1 0 := (ef_ok 12).1 0 (by decide) (by decide)
  have ha := hX.1
  obtain ⟨τ1, hτ1⟩ : ∃ z, z = sJ (sI (sI τ 0 24 0) 0 25 0) 12 (upd (vJ τ 12) x (nI (100 * j + L.length))) := ⟨_, rfl⟩
  have hM1 : MT T s a τ1 := by rw [hτ1]; exact hM
  have hML : ML j a L [] τ1 := by rw [hτ1]; exact ⟨⟨hj, by omega, by simpa using hl⟩, h23, ⟨rfl, rfl, trivial⟩, htk⟩
  have g1 : GE j x τ τ1 := by
    rw [hτ1]
    exact ⟨fun f q1 q2 q3 q4 q5 => by rw [vI_sJ, vI_sI, if_pos rfl, if_neg q5, vI_sI, if_pos rfl, if_neg q4], fun k q => by rw [vJ_sJ, if_neg (by omega)]; rfl, fun i hi => ⟨upd_n hi, rfl⟩, fun _ _ => rfl, fun _ => rfl⟩
  have tr : ∀ {τ2 : St}, GM j x τ1 τ2 → GE j x τ τ2 := fun {τ2} g => ⟨fun f q1 q2 q3 q4 q5 => (g.1 f q1 q2 q3 q4 q5).trans (g1.1 f q1 q2 q3 q4 q5), fun k q => (g.2.1 k (by omega) (by omega) (by omega)).trans (g1.2.1 k q), fun i hi => ⟨by rw [g.2.1 12 (by decide) (by decide) (by decide)]; exact (g1.2.2.1 i hi).1, (g.2.2.1 i hi).trans (g1.2.2.1 i hi).2⟩, fun i hi => (g.2.2.2.1 i hi).trans (g1.2.2.2.1 i hi), fun k => (g.2.2.2.2 k).trans (g1.2.2.2.2 k)⟩
  have t12 : vJ τ1 12 x = nI (100 * j + L.length) := by rw [hτ1]; exact upd_s
  have eM : f_M_takesE 0 (nI x) τ = ((f_M_takesE_l22 FU 0 (nI x) 1 τ1).bind fun x_84 => Sum.elim (fun _ => none) (fun z => some z) x_84) := by
    unfold f_M_takesE
    simp only [st]
    rw [if_pos (ok_nI hx (by decide)), nx_nI (by omega), show vI (sI (sI τ 0 24 0) 0 25 0) 0 23 = nI (100 * j + L.length) from h23, hτ1]
    rfl
  rw [eM]
  have e0 : (F_EF 12).1 84 0 σ = (F_EF 12).1 84 (nI 0) σ := by rw [nI_0]
  rw [e0]
  rcases hE (m := FU) hx hX hXL hM1 hML rfl (Or.inl rfl) (by unfold FU; omega) with ⟨σ', K, a', m', τ', τ'', w1, w2, w3, w4, w5, w6, w7, w8, w9, w10, w11, w12, w13, w14, w15⟩ | ⟨σ', a', τ', w1, w2, w3, w4, w5, w6⟩
  · obtain ⟨n2, rfl, hn2⟩ := m_lp (x := 0) (w := 0) w10 w4
    have hl2 := w12.ti
    rw [w1, w2, f_M_takesE_l22, m_peek w10, Option.bind_some, if_pos rfl, if_neg w6, if_neg w7, w5, Option.bind_some, if_pos (ok_nI hx (by decide)), nx_nI (by omega)]
    simp only [st]
    rw [if_pos (show vI (sJ τ'' 13 (upd (vJ τ'' 13) x (vI τ'' 0 23))) 0 24 = 0 from w12.ti.1.trans (by decide))]
    have gx : GM j x τ'' (sJ τ'' 13 (upd (vJ τ'' 13) x (vI τ'' 0 23))) := ⟨fun _ _ _ _ _ _ => rfl, fun k k1 _ _ => by rw [vJ_sJ, if_neg k1], fun i hi => upd_n hi, fun _ _ => rfl, fun _ => rfl⟩
    refine Or.inl ⟨σ', K, a', _, rfl, rfl, w3, w8, w9, w11, by omega, w12.2.1, w12.2.2.2, ?_, ?_, w13, tr (w14.tr gx), w15 0 (by decide)⟩
    · show vJ τ'' 12 x = _
      rw [w14.2.1 12 (by decide) (by decide) (by decide)]; exact t12
    · show upd (vJ τ'' 13) x (vI τ'' 0 23) x = _
      rw [upd_s]; exact w12.2.1
  · rw [w1, w2, Option.bind_some]
    exact Or.inr ⟨σ', a', τ', rfl, rfl, w3, w4, w5, tr w6⟩
def restS (w : Nat) (σ : St) : Option (Bool × St) := ((f_E_begins 84 (nI w) σ).bind fun q7 => (if q7.1 = false then some (false, q7.2) else ((f_E_ends 84 q7.2).bind fun q10 => (if q10.1 = false then some (false, q10.2) else some (true, q10.2)))))
def restE (w : Nat) (σ : St) : Option (Bool × St) := ((f_E_begins 84 (nI w) σ).bind fun q27 => (if q27.1 = false then some (false, q27.2) else ((f_E_skips 84 32 q27.2).bind fun q30 => (if q30.1 = false then some (false, q30.2) else (((F_EF 12).1 84 0 q30.2).bind fun q33 => (if q33.1 = false then some (false, q33.2) else ((f_E_ends 84 q33.2).bind fun q36 => (if q36.1 = false then some (false, q36.2) else some (true, q36.2)))))))))
def rest (w : Nat) (σ : St) : Option (Bool × St) := if w = 1 ∨ w = 2 then restS w σ else restE w σ
/-- its word -/
theorem head2 {T : Nat → Nat} {s x a : Nat} {σ τ : St} (hx : x < 60) (hX : XT T s a σ) (hM : MT T s a τ) (h8 : R8 τ) :
    (∃ w a', w < 4 ∧ a + 4 ≤ a' ∧ a' ≤ s ∧ f_E_clause 84 σ = rest w (sI σ 84 2 (nI a')) ∧ f_M_takesHead 0 (nI x) τ = some (true, sI (sJ τ 10 (upd (vJ τ 10) x (nI w))) 0 13 (nI a'))) ∨
    (∃ w a', a' ≤ s ∧ f_E_clause 84 σ = some (false, sI σ 84 2 (nI a')) ∧ f_M_takesHead 0 (nI x) τ = some (false, sI (sJ τ 10 (upd (vJ τ 10) x w)) 0 13 (nI a'))) := by
  have hok : ok (nI x) 60 = true := ok_nI hx (by decide)
  unfold f_E_clause f_M_takesHead
  rw [x_sign hX, m_peek hM, Option.bind_some, Option.bind_some]
  simp only [hok, if_true, st, nx_nI (show x < 2 ^ 31 by omega)]
  have L8 : ∀ (v : Int32) i, i < 16 → vJ (sJ τ 10 (upd (vJ τ 10) x v)) 16 i = letA.getD i 0 := fun v i hi => h8 i hi
  have hMv : ∀ v : Int32, MT T s a (sJ τ 10 (upd (vJ τ 10) x v)) := fun v => hM
  by_cases c1 : sg T s a = 102
  · rw [if_pos c1, if_pos c1]
    have hb8 : ∀ b, b ∈ [102, 117, 108, 108, 32] → b < 128 := by decide
    have e1 := x_words (c := 3) (w0 := [102, 117, 108, 108, 32]) (by decide +kernel) (by decide +kernel) hb8 (by decide) hX
    have e2 := m_word (p := 9) (w0 := [102, 117, 108, 108]) (by decide) (by decide) (hMv 2) (fun i hi => by
      have hd : ∀ i, i < 4 → 9 + i < 16 ∧ letA.getD (9 + i) 0 = nI ([102, 117, 108, 108].getD i 0) := by decide
      rw [L8 2 _ (hd i hi).1]; exact (hd i hi).2)
    obtain ⟨l1, l2, l3⟩ := mt_le (T := T) [102, 117, 108, 108, 32] a hb8 hX.1.2
    have e2' : f_M_takesWord 0 9 4 (sJ τ 10 (upd (vJ τ 10) x 2)) = some ((mt T s [102, 117, 108, 108, 32] a).1, sI (sJ τ 10 (upd (vJ τ 10) x 2)) 0 13 (nI (mt T s [102, 117, 108, 108, 32] a).2)) := e2
    rw [e1, e2', Option.bind_some, Option.bind_some]
    by_cases q : (mt T s [102, 117, 108, 108, 32] a).1 = true
    · rw [q, if_neg (show ¬ true = false by decide)]
      have := l3 q
      exact Or.inl ⟨2, _, by decide, by rw [this]; simp, l2, by rw [rest, if_pos (Or.inr rfl)]; rfl, rfl⟩
    · have q' := Bool.eq_false_iff.mpr q
      rw [q', if_pos rfl]
      exact Or.inr ⟨2, _, l2, rfl, rfl⟩
  rw [if_neg c1, if_neg c1]
  by_cases c2 : sg T s a = 108
  · rw [if_pos c2, if_pos c2]
    have hb8 : ∀ b, b ∈ [108, 101, 97, 115, 116, 32] → b < 128 := by decide
    have e1 := x_words (c := 2) (w0 := [108, 101, 97, 115, 116, 32]) (by decide +kernel) (by decide +kernel) hb8 (by decide) hX
    have e2 := m_word (p := 4) (w0 := [108, 101, 97, 115, 116]) (by decide) (by decide) (hMv 1) (fun i hi => by
      have hd : ∀ i, i < 5 → 4 + i < 16 ∧ letA.getD (4 + i) 0 = nI ([108, 101, 97, 115, 116].getD i 0) := by decide
      rw [L8 1 _ (hd i hi).1]; exact (hd i hi).2)
    obtain ⟨l1, l2, l3⟩ := mt_le (T := T) [108, 101, 97, 115, 116, 32] a hb8 hX.1.2
    have e2' : f_M_takesWord 0 4 5 (sJ τ 10 (upd (vJ τ 10) x 1)) = some ((mt T s [108, 101, 97, 115, 116, 32] a).1, sI (sJ τ 10 (upd (vJ τ 10) x 1)) 0 13 (nI (mt T s [108, 101, 97, 115, 116, 32] a).2)) := e2
    rw [e1, e2', Option.bind_some, Option.bind_some]
    by_cases q : (mt T s [108, 101, 97, 115, 116, 32] a).1 = true
    · rw [q, if_neg (show ¬ true = false by decide)]
      have := l3 q
      exact Or.inl ⟨1, _, by decide, by rw [this]; simp, l2, by rw [rest, if_pos (Or.inl rfl)]; rfl, rfl⟩
    · have q' := Bool.eq_false_iff.mpr q
      rw [q', if_pos rfl]
      exact Or.inr ⟨1, _, l2, rfl, rfl⟩
  rw [if_neg c2, if_neg c2]
  by_cases c3 : sg T s a = 112
  · rw [if_pos c3, if_neg (show ¬ sg T s a = 119 by rw [c3]; decide)]
    have hb8 : ∀ b, b ∈ [112, 97, 121, 32] → b < 128 := by decide
    have e1 := x_words (c := 4) (w0 := [112, 97, 121, 32]) (by decide +kernel) (by decide +kernel) hb8 (by decide) hX
    have e2 := m_word (p := 13) (w0 := [112, 97, 121]) (by decide) (by decide) (hMv 3) (fun i hi => by
      have hd : ∀ i, i < 3 → 13 + i < 16 ∧ letA.getD (13 + i) 0 = nI ([112, 97, 121].getD i 0) := by decide
      rw [L8 3 _ (hd i hi).1]; exact (hd i hi).2)
    obtain ⟨l1, l2, l3⟩ := mt_le (T := T) [112, 97, 121, 32] a hb8 hX.1.2
    have e2' : f_M_takesWord 0 13 3 (sJ τ 10 (upd (vJ τ 10) x 3)) = some ((mt T s [112, 97, 121, 32] a).1, sI (sJ τ 10 (upd (vJ τ 10) x 3)) 0 13 (nI (mt T s [112, 97, 121, 32] a).2)) := e2
    rw [e1, e2', Option.bind_some, Option.bind_some]
    by_cases q : (mt T s [112, 97, 121, 32] a).1 = true
    · rw [q, if_neg (show ¬ true = false by decide)]
      have := l3 q
      exact Or.inl ⟨3, _, by decide, by rw [this]; simp, l2, by rw [rest, if_neg (by decide)]; rfl, rfl⟩
    · have q' := Bool.eq_false_iff.mpr q
      rw [q', if_pos rfl]
      exact Or.inr ⟨3, _, l2, rfl, rfl⟩
  rw [if_neg c3]
  by_cases c4 : sg T s a = 119
  · rw [if_pos c4, if_pos c4]
    have hb8 : ∀ b, b ∈ [119, 97, 110, 116, 32] → b < 128 := by decide
    have e1 := x_words (c := 1) (w0 := [119, 97, 110, 116, 32]) (by decide +kernel) (by decide +kernel) hb8 (by decide) hX
    have e2 := m_word (p := 0) (w0 := [119, 97, 110, 116]) (by decide) (by decide) (hMv 0) (fun i hi => by
      have hd : ∀ i, i < 4 → 0 + i < 16 ∧ letA.getD (0 + i) 0 = nI ([119, 97, 110, 116].getD i 0) := by decide
      rw [L8 0 _ (hd i hi).1]; exact (hd i hi).2)
    obtain ⟨l1, l2, l3⟩ := mt_le (T := T) [119, 97, 110, 116, 32] a hb8 hX.1.2
    have e2' : f_M_takesWord 0 0 4 (sJ τ 10 (upd (vJ τ 10) x 0)) = some ((mt T s [119, 97, 110, 116, 32] a).1, sI (sJ τ 10 (upd (vJ τ 10) x 0)) 0 13 (nI (mt T s [119, 97, 110, 116, 32] a).2)) := e2
    rw [e1, e2', Option.bind_some, Option.bind_some]
    by_cases q : (mt T s [119, 97, 110, 116, 32] a).1 = true
    · rw [q, if_neg (show ¬ true = false by decide)]
      have := l3 q
      exact Or.inl ⟨0, _, by decide, by rw [this]; simp, l2, by rw [rest, if_neg (by decide)]; rfl, rfl⟩
    · have q' := Bool.eq_false_iff.mpr q
      rw [q', if_pos rfl]
      exact Or.inr ⟨0, _, l2, rfl, rfl⟩
  rw [if_neg c4, if_neg c4]
  have e2 := m_word (p := 13) (w0 := [112, 97, 121]) (by decide) (by decide) (hMv 3) (fun i hi => by
    have hd : ∀ i, i < 3 → 13 + i < 16 ∧ letA.getD (13 + i) 0 = nI ([112, 97, 121].getD i 0) := by decide
    rw [L8 3 _ (hd i hi).1]; exact (hd i hi).2)
  have e3 : mt T s ([112, 97, 121] ++ [32]) a = (false, a) := by
    show (if sg T s a = nI 112 then mt T s [97, 121, 32] (a + 1) else (false, a)) = _
    rw [if_neg (show ¬ sg T s a = nI 112 from c3)]
  rw [e3] at e2
  have e2' : f_M_takesWord 0 13 3 (sJ τ 10 (upd (vJ τ 10) x 3)) = some (false, sI (sJ τ 10 (upd (vJ τ 10) x 3)) 0 13 (nI a)) := e2
  rw [e2', Option.bind_some]
  exact Or.inr ⟨3, a, hX.1.2, by rw [hX.sf], rfl⟩
theorem XT.of {T : Nat → Nat} {s a : Nat} {σ σ' : St} (h : XT T s a σ) (h1 : ∀ f, vI σ' 84 f = vI σ 84 f) (h2 : vJ σ' 85 = vJ σ 85) : XT T s a σ' := ⟨h.1, by rw [h1]; exact h.2.1, by rw [h1]; exact h.2.2.1, fun i hi => by rw [h2]; exact h.2.2.2 i hi⟩
theorem XL.of {r : Nat} {L : List Nat} {σ σ' : St} (h : XL r L σ) (h1 : vH σ' 84 = vH σ 84) (h2 : vI σ' r 6 = vI σ r 6) (h3 : vJ σ' (r + 5) = vJ σ (r + 5)) : XL r L σ' := ⟨h.1, h1.trans h.2.1, h2.trans h.2.2.1, fun k t hk => by rw [h3]; exact h.2.2.2 k t hk⟩
theorem x_begin {r n w v : Nat} {σ : St} (h0 : vI σ r 0 = nI n) (hn : n < 10) (hv : v < 100) (hw : w < 4) : ∃ σ', f_R_begin r (nI w) (nI v) σ = some σ' ∧ (vJ σ' (r + 1) n = nI w ∧ vJ σ' (r + 2) n = nI v ∧ vJ σ' (r + 3) n = vI σ r 6) ∧ (∀ i, i ≠ n → vJ σ' (r + 1) i = vJ σ (r + 1) i ∧ vJ σ' (r + 2) i = vJ σ (r + 2) i ∧ vJ σ' (r + 3) i = vJ σ (r + 3) i) ∧ (∀ k, ¬ (r + 1 ≤ k ∧ k ≤ r + 3) → vJ σ' k = vJ σ k) ∧ vI σ' r 7 = (if w = 1 then nI v else vI σ r 7) ∧ vI σ' r 8 = (if w = 2 then nI (10 * v) else vI σ r 8) ∧ (∀ k f, (k ≠ r ∨ (f ≠ 7 ∧ f ≠ 8)) → vI σ' k f = vI σ k f) ∧ (∀ k, vL σ' k = vL σ k) ∧ (∀ k, vH σ' k = vH σ k) := by
  obtain ⟨s7, hs7⟩ : ∃ z, z = sJ (sJ (sJ σ (r + 1) (upd (vJ σ (r + 1)) n (nI w))) (r + 2) (upd (vJ σ (r + 2)) n (nI v))) (r + 3) (upd (vJ σ (r + 3)) n (vI σ r 6)) := ⟨_, rfl⟩
  have e : f_R_begin r (nI w) (nI v) σ = if nI w = 1 then some (sI s7 r 7 (nI v)) else if nI w = 2 then some (sI s7 r 8 (10 * nI v)) else some s7 := by
    unfold f_R_begin
    rw [h0, if_pos (by rw [show (10 : Int32) = nI 10 by decide, nIlt (by omega) (by decide)]; exact hn), if_pos (ok_nI hn (by decide)), nx_nI (by omega)]
    simp only [st, vI_sJ, h0]
    rw [if_pos (ok_nI hn (by decide)), if_pos (ok_nI hn (by decide)), nx_nI (by omega)]
    rw [show vJ (sJ σ (r + 1) (upd (vJ σ (r + 1)) n (nI w))) (r + 2) = vJ σ (r + 2) by rw [vJ_sJ, if_neg (by omega)]]
    rw [show vJ (sJ (sJ σ (r + 1) (upd (vJ σ (r + 1)) n (nI w))) (r + 2) (upd (vJ σ (r + 2)) n (nI v))) (r + 3) = vJ σ (r + 3) by rw [vJ_sJ, if_neg (by omega), vJ_sJ, if_neg (by omega)]]
    rw [← hs7]
  have t1 : vJ s7 (r + 1) = upd (vJ σ (r + 1)) n (nI w) := by rw [hs7, vJ_sJ, if_neg (by omega), vJ_sJ, if_neg (by omega), vJ_sJ, if_pos rfl]
  have t2 : vJ s7 (r + 2) = upd (vJ σ (r + 2)) n (nI v) := by rw [hs7, vJ_sJ, if_neg (by omega), vJ_sJ, if_pos rfl]
  have t3 : vJ s7 (r + 3) = upd (vJ σ (r + 3)) n (vI σ r 6) := by rw [hs7, vJ_sJ, if_pos rfl]
  have t4 : ∀ k, ¬ (r + 1 ≤ k ∧ k ≤ r + 3) → vJ s7 k = vJ σ k := fun k hk => by rw [hs7, vJ_sJ, if_neg (by omega), vJ_sJ, if_neg (by omega), vJ_sJ, if_neg (by omega)]
  have t5 : ∀ k f, vI s7 k f = vI σ k f := fun k f => by rw [hs7]; rfl
  have fin : ∀ σ' : St, f_R_begin r (nI w) (nI v) σ = some σ' → (∀ k, vJ σ' k = vJ s7 k) → vI σ' r 7 = (if w = 1 then nI v else vI σ r 7) → vI σ' r 8 = (if w = 2 then nI (10 * v) else vI σ r 8) → (∀ k f, (k ≠ r ∨ (f ≠ 7 ∧ f ≠ 8)) → vI σ' k f = vI σ k f) → (∀ k, vL σ' k = vL σ k) → (∀ k, vH σ' k = vH σ k) → ∃ σ', f_R_begin r (nI w) (nI v) σ = some σ' ∧ (vJ σ' (r + 1) n = nI w ∧ vJ σ' (r + 2) n = nI v ∧ vJ σ' (r + 3) n = vI σ r 6) ∧ (∀ i, i ≠ n → vJ σ' (r + 1) i = vJ σ (r + 1) i ∧ vJ σ' (r + 2) i = vJ σ (r + 2) i ∧ vJ σ' (r + 3) i = vJ σ (r + 3) i) ∧ (∀ k, ¬ (r + 1 ≤ k ∧ k ≤ r + 3) → vJ σ' k = vJ σ k) ∧ vI σ' r 7 = (if w = 1 then nI v else vI σ r 7) ∧ vI σ' r 8 = (if w = 2 then nI (10 * v) else vI σ r 8) ∧ (∀ k f, (k ≠ r ∨ (f ≠ 7 ∧ f ≠ 8)) → vI σ' k f = vI σ k f) ∧ (∀ k, vL σ' k = vL σ k) ∧ (∀ k, vH σ' k = vH σ k) := by
    intro σ' q1 q2 q3 q4 q5 q6 q7
    refine ⟨σ', q1, ⟨by rw [q2, t1, upd_s], by rw [q2, t2, upd_s], by rw [q2, t3, upd_s]⟩, fun i hi => ⟨by rw [q2, t1, upd_n hi], by rw [q2, t2, upd_n hi], by rw [q2, t3, upd_n hi]⟩, fun k hk => by rw [q2, t4 k hk], q3, q4, q5, q6, q7⟩
  have w1 : (nI w = 1) = (w = 1) := by rw [show (1 : Int32) = nI 1 by decide]; exact nIeq (by omega) (by decide)
  have w2 : (nI w = 2) = (w = 2) := by rw [show (2 : Int32) = nI 2 by decide]; exact nIeq (by omega) (by decide)
  by_cases c1 : w = 1
  · refine fin (sI s7 r 7 (nI v)) (by rw [e, if_pos (by rw [w1]; exact c1)]) (fun k => rfl) ?_ ?_ (fun k f hk => ?_) (fun k => by rw [hs7]; rfl) (fun k => by rw [hs7]; rfl)
    · rw [if_pos c1, vI_sI, if_pos rfl, if_pos rfl]
    · rw [if_neg (by omega), vI_sI, if_pos rfl, if_neg (by decide), t5]
    · rw [vI_sI]
      by_cases hk2 : k = r
      · rw [if_pos hk2, if_neg (by omega), t5]
      · rw [if_neg hk2, t5]
  by_cases c2 : w = 2
  · refine fin (sI s7 r 8 (10 * nI v)) (by rw [e, if_neg (by rw [w1]; exact c1), if_pos (by rw [w2]; exact c2)]) (fun k => rfl) ?_ ?_ (fun k f hk => ?_) (fun k => by rw [hs7]; rfl) (fun k => by rw [hs7]; rfl)
    · rw [if_neg c1, vI_sI, if_pos rfl, if_neg (by decide), t5]
    · rw [if_pos c2, vI_sI, if_pos rfl, if_pos rfl, show (10 : Int32) = nI 10 by decide, pk_mul]
    · rw [vI_sI]
      by_cases hk2 : k = r
      · rw [if_pos hk2, if_neg (by omega), t5]
      · rw [if_neg hk2, t5]
  refine fin s7 (by rw [e, if_neg (by rw [w1]; exact c1), if_neg (by rw [w2]; exact c2)]) (fun k => rfl) ?_ ?_ (fun k f hk => t5 k f) (fun k => by rw [hs7]; rfl) (fun k => by rw [hs7]; rfl)
  · rw [if_neg c1, t5]
  · rw [if_neg c2, t5]
theorem x_end {r n : Nat} {σ : St} (h0 : vI σ r 0 = nI n) (hn : n < 10) : ∃ σ', f_R_end r σ = some σ' ∧ vJ σ' (r + 4) n = vI σ r 6 ∧ (∀ i, i ≠ n → vJ σ' (r + 4) i = vJ σ (r + 4) i) ∧ (∀ k, k ≠ r + 4 → vJ σ' k = vJ σ k) ∧ vI σ' r 0 = nI (n + 1) ∧ (∀ k f, (k ≠ r ∨ f ≠ 0) → vI σ' k f = vI σ k f) ∧ (∀ k, vL σ' k = vL σ k) ∧ (∀ k, vH σ' k = vH σ k) := by
  unfold f_R_end
  rw [h0, if_neg (by rw [show (10 : Int32) = nI 10 by decide, nIle (by decide) (by omega)]; omega), if_pos (ok_nI hn (by decide)), nx_nI (by omega)]
  simp only [st, vI_sJ, h0, nI_1]
  refine ⟨_, rfl, ?_, fun i hi => ?_, fun k hk => ?_, ?_, fun k f hk => ?_, fun k => rfl, fun k => rfl⟩
  · rw [vJ_sI, vJ_sJ, if_pos rfl, upd_s]
  · rw [vJ_sI, vJ_sJ, if_pos rfl, upd_n hi]
  · rw [vJ_sI, vJ_sJ, if_neg hk]
  · rw [vI_sI, if_pos rfl, if_pos rfl]
  · rw [vI_sI]
    by_cases hk2 : k = r
    · rw [if_pos hk2, if_neg (by omega), vI_sJ, hk2]
    · rw [if_neg hk2, vI_sJ]
def FR (r : Nat) (σ σ' : St) : Prop := (∀ k f, ¬ (k = 84 ∧ f = 2) → k ≠ r → vI σ' k f = vI σ k f) ∧ (∀ k, ¬ (r + 1 ≤ k ∧ k ≤ r + 5) → vJ σ' k = vJ σ k) ∧ (∀ k, vL σ' k = vL σ k) ∧ (∀ k, vH σ' k = vH σ k)
def HM (j : Nat) (τ τ' : St) : Prop := (∀ f, f ≠ 13 → f ≠ 14 → f ≠ 23 → f ≠ 24 → f ≠ 25 → vI τ' 0 f = vI τ 0 f) ∧ (∀ k, ¬ (9 ≤ k ∧ k ≤ 15) → vJ τ' k = vJ τ k) ∧ (∀ i, i < j → vJ τ' 9 i = vJ τ 9 i) ∧ (∀ k, 10 ≤ k → k ≤ 13 → ∀ i, i < 10 * j → vJ τ' k i = vJ τ k i) ∧ (∀ i, i < 100 * j → vJ τ' 14 i = vJ τ 14 i) ∧ (∀ k, vL τ' k = vL τ k)
theorem FR.rf {r : Nat} {σ : St} : FR r σ σ := ⟨fun _ _ _ _ => rfl, fun _ _ => rfl, fun _ => rfl, fun _ => rfl⟩
theorem FR.tr {r : Nat} {a b c : St} (h1 : FR r a b) (h2 : FR r b c) : FR r a c := ⟨fun k f q1 q2 => (h2.1 k f q1 q2).trans (h1.1 k f q1 q2), fun k q => (h2.2.1 k q).trans (h1.2.1 k q), fun k => (h2.2.2.1 k).trans (h1.2.2.1 k), fun k => (h2.2.2.2 k).trans (h1.2.2.2 k)⟩
theorem FE.fr {r : Nat} {σ σ' : St} (h : FE r σ σ') : FR r σ σ' := ⟨fun k f q1 q2 => h.1 k f q1 (fun e => q2 e.1), fun k q => h.2.1 k (by omega), h.2.2.1, h.2.2.2⟩
theorem HM.rf {j : Nat} {τ : St} : HM j τ τ := ⟨fun _ _ _ _ _ _ => rfl, fun _ _ => rfl, fun _ _ => rfl, fun _ _ _ _ _ => rfl, fun _ _ => rfl, fun _ => rfl⟩
theorem HM.tr {j : Nat} {a b c : St} (h1 : HM j a b) (h2 : HM j b c) : HM j a c := ⟨fun f q1 q2 q3 q4 q5 => (h2.1 f q1 q2 q3 q4 q5).trans (h1.1 f q1 q2 q3 q4 q5), fun k q => (h2.2.1 k q).trans (h1.2.1 k q), fun i q => (h2.2.2.1 i q).trans (h1.2.2.1 i q), fun k q1 q2 i q3 => (h2.2.2.2.1 k q1 q2 i q3).trans (h1.2.2.2.1 k q1 q2 i q3), fun i q => (h2.2.2.2.2.1 i q).trans (h1.2.2.2.2.1 i q), fun k => (h2.2.2.2.2.2 k).trans (h1.2.2.2.2.2 k)⟩
theorem GE.hm {j x : Nat} {τ τ' : St} (h : GE j x τ τ') (hx : 10 * j ≤ x) : HM j τ τ' := ⟨h.1, fun k q => h.2.1 k (by omega), fun i _ => by rw [h.2.1 9 (by decide)], fun k q1 q2 i hi => by
  by_cases e12 : k = 12
  · subst e12; exact (h.2.2.1 i (by omega)).1
  by_cases e13 : k = 13
  · subst e13; exact (h.2.2.1 i (by omega)).2
  rw [h.2.1 k (by omega)], h.2.2.2.1, h.2.2.2.2⟩
/-- the i-th clause, in both -/
def CC (σ τ : St) (r j : Nat) (L : List Nat) (i : Nat) (c : Cl) : Prop := (vJ σ (r + 1) i = nI c.1 ∧ vJ σ (r + 2) i = nI c.2.1 ∧ vJ τ 10 (10 * j + i) = nI c.1 ∧ vJ τ 11 (10 * j + i) = nI c.2.1 ∧ c.1 < 4 ∧ c.2.1 < 100) ∧ (c.1 = 0 ∨ c.1 = 3 → ∃ b, vJ σ (r + 3) i = nI b ∧ vJ σ (r + 4) i = nI (b + c.2.2.length) ∧ vJ τ 12 (10 * j + i) = nI (100 * j + b) ∧ vJ τ 13 (10 * j + i) = nI (100 * j + b + c.2.2.length) ∧ b + c.2.2.length ≤ L.length ∧ dep c.2.2 0 = some 1 ∧ ∀ k t, c.2.2[k]? = some t → L[b + k]? = some t)
theorem CC.c {σ τ σ' τ' : St} {r j i : Nat} {L L' : List Nat} {c : Cl} (h : CC σ τ r j L i c) (hx : ∀ k, 1 ≤ k → k ≤ 4 → vJ σ' (r + k) i = vJ σ (r + k) i) (hm : ∀ k, 10 ≤ k → k ≤ 13 → vJ τ' k (10 * j + i) = vJ τ k (10 * j + i)) (hl : L.length ≤ L'.length) (hL : ∀ k t : Nat, L[k]? = some t → L'[k]? = some t) : CC σ' τ' r j L' i c := by
  obtain ⟨⟨h1, h2, h3, h4, h5, h6⟩, h7⟩ := h
  refine ⟨⟨(hx 1 (by decide) (by decide)).trans h1, (hx 2 (by decide) (by decide)).trans h2, (hm 10 (by decide) (by decide)).trans h3, (hm 11 (by decide) (by decide)).trans h4, h5, h6⟩, fun hc => ?_⟩
  obtain ⟨b, q1, q2, q3, q4, q5, q6, q7⟩ := h7 hc
  exact ⟨b, (hx 3 (by decide) (by decide)).trans q1, (hx 4 (by decide) (by decide)).trans q2, (hm 12 (by decide) (by decide)).trans q3, (hm 13 (by decide) (by decide)).trans q4, by omega, q6, fun k t hk => hL _ _ (q7 k t hk)⟩
def BD (T : Nat → Nat) (s r j a : Nat) (L : List Nat) (CL : List Cl) (σ τ : St) : Prop := XT T s a σ ∧ XL r L σ ∧ MT T s a τ ∧ (j < 6 ∧ L.length ≤ a) ∧ (vI τ 0 23 = nI (100 * j + L.length) ∧ ∀ k t, L[k]? = some t → vJ τ 14 (100 * j + k) = me t) ∧ (vI σ r 0 = nI CL.length ∧ vI σ r 7 = nI (leA CL) ∧ vI σ r 8 = nI (fuA CL)) ∧ (∀ i c, CL[i]? = some c → CC σ τ r j L i c) ∧ R8 τ
theorem leA_app (CL : List Cl) (c : Cl) : leA (CL ++ [c]) = if c.1 = 1 then c.2.1 else leA CL := by
  unfold leA; rw [List.foldl_append]; rfl
theorem fuA_app (CL : List Cl) (c : Cl) : fuA (CL ++ [c]) = if c.1 = 2 then 10 * c.2.1 else fuA CL := by
  unfold fuA; rw [List.foldl_append]; rfl
theorem app_get {α : Type} {A : List α} {c d : α} {i : Nat} (h : (A ++ [c])[i]? = some d) : (i < A.length ∧ A[i]? = some d) ∨ (i = A.length ∧ d = c) := by
  by_cases e : i < A.length
  · rw [List.getElem?_append_left e] at h; exact Or.inl ⟨e, h⟩
  · by_cases e2 : i = A.length
    · subst e2
      rw [List.getElem?_append_right (Nat.le_refl _), Nat.sub_self] at h
      simp at h
      exact Or.inr ⟨rfl, h.symm⟩
    · rw [List.getElem?_eq_none (by simp; omega)] at h; cases h
theorem app_left {α : Type} {A B : List α} {d : α} {i : Nat} (h : A[i]? = some d) : (A ++ B)[i]? = some d := by
  have hlt := (List.getElem?_eq_some_iff.mp h).1
  rw [List.getElem?_append_left hlt]; exact h
theorem clause2 {T : Nat → Nat} {s r j a : Nat} {L : List Nat} {CL : List Cl} {σ τ : St} (h : BD T s r j a L CL σ τ) (hn : CL.length < 10) :
    (∃ σ' τ' a' L' c, f_E_clause 84 σ = some (true, σ') ∧ f_M_takesClause 0 (nI (10 * j + CL.length)) τ = some (true, τ') ∧ a < a' ∧ BD T s r j a' L' (CL ++ [c]) σ' τ' ∧ FR r σ σ' ∧ HM j τ τ') ∨
    (∃ σ' τ' a', f_E_clause 84 σ = some (false, σ') ∧ f_M_takesClause 0 (nI (10 * j + CL.length)) τ = some (false, τ') ∧ XT T s a' σ' ∧ MT T s a' τ' ∧ FR r σ σ' ∧ HM j τ τ') := by
  obtain ⟨hX, hXL, hM, ⟨hj, hla⟩, ⟨h23, htk⟩, ⟨h0, h7, h8⟩, hC, hR8⟩ := h
  have hr := hXL.r
  obtain ⟨x, hxe⟩ : ∃ x, x = 10 * j + CL.length := ⟨_, rfl⟩
  rw [← hxe]
  have hx : x < 60 := by omega
  have hok : ok (nI x) 60 = true := ok_nI hx (by decide)
  have hm10 : ∀ (w v : Int32), HM j τ (sI (sJ τ 10 (upd (vJ τ 10) x w)) 0 13 v) := fun w v => ⟨fun f q1 _ _ _ _ => by rw [vI_sI, if_pos rfl, if_neg q1, vI_sJ], fun k q => by rw [vJ_sI, vJ_sJ, if_neg (by omega)], fun i _ => rfl, fun k q1 q2 i hi => by
    rw [vJ_sI, vJ_sJ]
    by_cases e : k = 10
    · rw [if_pos e, upd_n (by omega), e]
    · rw [if_neg e], fun _ _ => rfl, fun _ => rfl⟩
  unfold f_M_takesClause
  rcases head2 hx hX hM hR8 with ⟨w, a1, hw, l1, l2, ex, em⟩ | ⟨w, a1, l2, ex, em⟩
  · rw [ex, em, Option.bind_some, if_neg (show ¬ true = false by decide)]
    have hX1 : XT T s a1 (sI σ 84 2 (nI a1)) := hX.to l2
    have hM1 : MT T s a1 (sI (sJ τ 10 (upd (vJ τ 10) x (nI w))) 0 13 (nI a1)) := MT.to (a := a) (show MT T s a (sJ τ 10 (upd (vJ τ 10) x (nI w))) from hM) l2
    rw [m_number hM1, Option.bind_some]
    by_cases hnu : (nu T s a1).1 = true
    · obtain ⟨v, hv, ev, l3, l4⟩ := nu_n hnu
      obtain ⟨a2, ha2⟩ : ∃ z, z = (nu T s a1).2.2 := ⟨_, rfl⟩
      rw [← ha2] at l3 l4
      simp only [hnu, if_true, ev, ← ha2]
      rw [if_neg (show ¬ true = false by decide)]
      obtain ⟨τ2, hτ2⟩ : ∃ z, z = sJ (sI (sI (sI (sJ τ 10 (upd (vJ τ 10) x (nI w))) 0 13 (nI a1)) 0 14 (nI v)) 0 13 (nI a2)) 11 (upd (vJ τ 11) x (nI v)) := ⟨_, rfl⟩
      have hM2 : MT T s a2 τ2 := by rw [hτ2]; exact ⟨⟨hM.1.1, l4⟩, hM.2.1, rfl, hM.2.2.2⟩
      have g2 : HM j τ τ2 := by
        rw [hτ2]
        refine ⟨fun f q1 q2 _ _ _ => ?_, fun k q => ?_, fun i _ => rfl, fun k q1 q2 i hi => ?_, fun _ _ => rfl, fun _ => rfl⟩
        · rw [vI_sJ, vI_sI, if_pos rfl, if_neg q1, vI_sI, if_pos rfl, if_neg q2, vI_sI, if_pos rfl, if_neg q1, vI_sJ]
        · simp only [vJ_sI, vJ_sJ]; rw [if_neg (by omega), if_neg (by omega)]
        · simp only [vJ_sI, vJ_sJ]
          by_cases e11 : k = 11
          · rw [if_pos e11, upd_n (by omega), e11]
          · rw [if_neg e11]
            by_cases e : k = 10
            · rw [if_pos e, upd_n (by omega), e]
            · rw [if_neg e]
      have t10 : vJ τ2 10 = upd (vJ τ 10) x (nI w) := by rw [hτ2]; rfl
      have t11 : vJ τ2 11 = upd (vJ τ 11) x (nI v) := by rw [hτ2]; rfl
      have t12 : vJ τ2 12 = vJ τ 12 := by rw [hτ2]; rfl
      have t13 : vJ τ2 13 = vJ τ 13 := by rw [hτ2]; rfl
      have t14 : vJ τ2 14 = vJ τ 14 := by rw [hτ2]; rfl
      have t16 : vJ τ2 16 = vJ τ 16 := by rw [hτ2]; rfl
      have t23 : vI τ2 0 23 = nI (100 * j + L.length) := by rw [hτ2]; exact h23
      have em2 : (if ok (nI x) 60 = true then st (sJ (sI (sI (sI (sJ τ 10 (upd (vJ τ 10) x (nI w))) 0 13 (nI a1)) 0 14 (nI v)) 0 13 (nI a2)) 11 (upd (vJ (sI (sI (sI (sJ τ 10 (upd (vJ τ 10) x (nI w))) 0 13 (nI a1)) 0 14 (nI v)) 0 13 (nI a2)) 11) (nx (nI x)) (vI (sI (sI (sI (sJ τ 10 (upd (vJ τ 10) x (nI w))) 0 13 (nI a1)) 0 14 (nI v)) 0 13 (nI a2)) 0 14))) fun s8 => (if ok (nI x) 60 = true then (if (vJ s8 10 (nx (nI x))) = 1 then some (true, s8) else (if ok (nI x) 60 = true then (if (vJ s8 10 (nx (nI x))) = 2 then some (true, s8) else ((f_M_reads 0 32 s8).bind fun q13 => (if q13.1 = false then some (false, q13.2) else ((f_M_takesE 0 (nI x) q13.2).bind fun q16 => (if q16.1 = false then some (false, q16.2) else some (true, q16.2)))))) else none)) else none) else none) = (if nI w = 1 then some (true, τ2) else (if nI w = 2 then some (true, τ2) else ((f_M_reads 0 32 τ2).bind fun q13 => (if q13.1 = false then some (false, q13.2) else ((f_M_takesE 0 (nI x) q13.2).bind fun q16 => (if q16.1 = false then some (false, q16.2) else some (true, q16.2))))))) := by
        have a1' : vI (sI (sI (sI (sJ τ 10 (upd (vJ τ 10) x (nI w))) 0 13 (nI a1)) 0 14 (nI v)) 0 13 (nI a2)) 0 14 = nI v := rfl
        have a2' : vJ (sI (sI (sI (sJ τ 10 (upd (vJ τ 10) x (nI w))) 0 13 (nI a1)) 0 14 (nI v)) 0 13 (nI a2)) 11 = vJ τ 11 := rfl
        simp only [hok, if_true, st, nx_nI (show x < 2 ^ 31 by omega), a1', a2']
        rw [← hτ2, t10, upd_s]
      rw [em2]
      -- the class begins the clause
      have hXn : XT T s a2 (sI σ 84 2 (nI a2)) := hX.to l4
      have h0n : vI (sI σ 84 2 (nI a2)) r 0 = nI CL.length := by rw [vI_sI, if_neg (by omega)]; exact h0
      obtain ⟨σb, b1, ⟨b2, b3, b4⟩, b5, b6, b7, b8, b9, b10, b11⟩ := x_begin (w := w) (v := v) h0n hn hv hw
      have hXLn : XL r L (sI σ 84 2 (nI a2)) := hXL.at
      have eB : f_E_begins 84 (nI w) (sI σ 84 2 (nI a1)) = some (true, σb) := by
        unfold f_E_begins
        rw [x_number hX1, Option.bind_some]
        simp only [hnu, if_true, ev, ← ha2]
        rw [if_pos (nI_pos' (by omega)), sI_sI, hXLn.2.1, if_pos (tgb_of hXL.1), b1, Option.bind_some]
      have hXb : XT T s a2 σb := hXn.of (fun f => b9 84 f (Or.inl (by omega))) (b6 85 (by omega))
      have hXLb : XL r L σb := hXLn.of (b11 84) (b9 r 6 (Or.inr (by decide))) (b6 (r + 5) (by omega))
      have h0b : vI σb r 0 = nI CL.length := by rw [b9 r 0 (Or.inr (by decide))]; exact h0n
      have b4' : vJ σb (r + 3) CL.length = nI L.length := b4.trans hXLn.2.2.1
      have b7' : vI σb r 7 = nI (if w = 1 then v else leA CL) := by
        rw [b7, show vI (sI σ 84 2 (nI a2)) r 7 = vI σ r 7 by rw [vI_sI, if_neg (by omega)], h7]
        by_cases c : w = 1
        · rw [if_pos c, if_pos c]
        · rw [if_neg c, if_neg c]
      have b8' : vI σb r 8 = nI (if w = 2 then 10 * v else fuA CL) := by
        rw [b8, show vI (sI σ 84 2 (nI a2)) r 8 = vI σ r 8 by rw [vI_sI, if_neg (by omega)], h8]
        by_cases c : w = 2
        · rw [if_pos c, if_pos c]
        · rw [if_neg c, if_neg c]
      have frb : FR r σ σb := FE.at.fr.tr ⟨fun k f _ q => b9 k f (Or.inl q), fun k q => b6 k (by omega), b10, b11⟩
      have old4 : ∀ {σ' : St}, (∀ k, 1 ≤ k → k ≤ 3 → vJ σ' (r + k) = vJ σb (r + k)) → (∀ i, i ≠ CL.length → vJ σ' (r + 4) i = vJ σb (r + 4) i) → ∀ i, i < CL.length → ∀ k, 1 ≤ k → k ≤ 4 → vJ σ' (r + k) i = vJ σ (r + k) i := by
        intro σ' q1 q2 i hi k k1 k2
        obtain ⟨z1, z2, z3⟩ := b5 i (by omega)
        rcases (show k = 1 ∨ k = 2 ∨ k = 3 ∨ k = 4 by omega) with rfl | rfl | rfl | rfl
        · rw [q1 1 (by decide) (by decide)]; exact z1
        · rw [q1 2 (by decide) (by decide)]; exact z2
        · rw [q1 3 (by decide) (by decide)]; exact z3
        · rw [q2 i (by omega), b6 (r + 4) (by omega)]; rfl
      by_cases hs : w = 1 ∨ w = 2
      · -- no expression
        obtain ⟨σe, f1, f2, f3, f4, f5, f6, f7, f8⟩ := x_end h0b hn
        have eX : rest w (sI σ 84 2 (nI a1)) = some (true, σe) := by
          unfold rest restS
          rw [if_pos hs, eB, Option.bind_some, if_neg (show ¬ true = false by decide)]
          unfold f_E_ends
          rw [hXLb.2.1, if_pos (tgb_of hXL.1), f1]
          rfl
        have eM : (if nI w = 1 then some (true, τ2) else (if nI w = 2 then some (true, τ2) else ((f_M_reads 0 32 τ2).bind fun q13 => (if q13.1 = false then some (false, q13.2) else ((f_M_takesE 0 (nI x) q13.2).bind fun q16 => (if q16.1 = false then some (false, q16.2) else some (true, q16.2))))))) = some (true, τ2) := by
          rcases hs with rfl | rfl
          · rw [if_pos (by decide)]
          · rw [if_neg (by decide), if_pos (by decide)]
        rw [eX, eM]
        refine Or.inl ⟨σe, τ2, a2, L, (w, v, []), rfl, rfl, by omega, ⟨hXb.of (fun f => f6 84 f (Or.inl (by omega))) (f4 85 (by omega)), hXLb.of (f8 84) (f6 r 6 (Or.inr (by decide))) (f4 (r + 5) (by omega)), hM2, ⟨hj, by omega⟩, ⟨t23, by rw [t14]; exact htk⟩, ⟨by rw [f5, List.length_append]; rfl, ?_, ?_⟩, fun i c hc => ?_, fun i hi => by rw [t16]; exact hR8 i hi⟩, frb.tr ⟨fun k f _ q => f6 k f (Or.inl q), fun k q => f4 k (by omega), f7, f8⟩, g2⟩
        · rw [f6 r 7 (Or.inr (by decide)), b7', leA_app]
        · rw [f6 r 8 (Or.inr (by decide)), b8', fuA_app]
        · rcases app_get hc with ⟨hi, hc'⟩ | ⟨hi, hc'⟩
          · refine (hC i c hc').c (old4 (fun k k1 k2 => f4 _ (by omega)) (fun i hi => f3 i hi) i hi) (fun k k1 k2 => ?_) (Nat.le_refl _) (fun k t q => q)
            rcases (show k = 10 ∨ k = 11 ∨ k = 12 ∨ k = 13 by omega) with rfl | rfl | rfl | rfl
            · rw [t10, upd_n (by omega)]
            · rw [t11, upd_n (by omega)]
            · rw [t12]
            · rw [t13]
          · subst hi hc'
            refine ⟨⟨by rw [f4 (r + 1) (by omega)]; exact b2, by rw [f4 (r + 2) (by omega)]; exact b3, by rw [t10, ← hxe, upd_s], by rw [t11, ← hxe, upd_s], hw, hv⟩, fun hq => ?_⟩
            have hq' : w = 0 ∨ w = 3 := hq
            omega
      · -- with an expression
        have hw03 : w = 0 ∨ w = 3 := by omega
        have eX : rest w (sI σ 84 2 (nI a1)) = ((f_E_skips 84 32 σb).bind fun q30 => (if q30.1 = false then some (false, q30.2) else (((F_EF 12).1 84 0 q30.2).bind fun q33 => (if q33.1 = false then some (false, q33.2) else ((f_E_ends 84 q33.2).bind fun q36 => (if q36.1 = false then some (false, q36.2) else some (true, q36.2))))))) := by
          unfold rest restE
          rw [if_neg hs, eB, Option.bind_some, if_neg (show ¬ true = false by decide)]
        have eM : (if nI w = 1 then some (true, τ2) else (if nI w = 2 then some (true, τ2) else ((f_M_reads 0 32 τ2).bind fun q13 => (if q13.1 = false then some (false, q13.2) else ((f_M_takesE 0 (nI x) q13.2).bind fun q16 => (if q16.1 = false then some (false, q16.2) else some (true, q16.2))))))) = ((f_M_reads 0 32 τ2).bind fun q13 => (if q13.1 = false then some (false, q13.2) else ((f_M_takesE 0 (nI x) q13.2).bind fun q16 => (if q16.1 = false then some (false, q16.2) else some (true, q16.2))))) := by
          rcases hw03 with rfl | rfl
          · rw [if_neg (by decide), if_neg (by decide)]
          · rw [if_neg (by decide), if_neg (by decide)]
        rw [eX, eM, x_skips hXb, m_reads hM2]
        by_cases c32 : sg T s a2 = 32
        · have h2s := sg_lt c32 (by decide)
          rw [if_pos c32, if_pos c32, Option.bind_some, Option.bind_some, if_neg (show ¬ true = false by decide), if_neg (show ¬ true = false by decide)]
          have hM3 : MT T s (a2 + 1) (sI τ2 0 13 (nI (a2 + 1))) := hM2.to h2s
          have gm3 : HM j τ2 (sI τ2 0 13 (nI (a2 + 1))) := ⟨fun f q1 _ _ _ _ => by rw [vI_sI, if_pos rfl, if_neg q1], fun _ _ => rfl, fun _ _ => rfl, fun _ _ _ _ _ => rfl, fun _ _ => rfl, fun _ => rfl⟩
          rcases expr2 (r := r) (L := L) hx hj (hXb.to (a' := a2 + 1) h2s) hXLb.at hM3 (by omega) t23 (by show ∀ k t, L[k]? = some t → vJ τ2 14 (100 * j + k) = me t; rw [t14]; exact htk) with ⟨σ4, K, a4, τ4, q1, q2, q3, q4, q5, q6, q7, q8, q9, q10, q11, q12, q13, q14⟩ | ⟨σ4, a4, τ4, q1, q2, q3, q4, q5, q6⟩
          · have h04 : vI σ4 r 0 = nI CL.length := by rw [q12.1 r 0 (by omega) (by omega), vI_sI, if_neg (by omega)]; exact h0b
            obtain ⟨σe, f1, f2, f3, f4, f5, f6, f7, f8⟩ := x_end h04 hn
            rw [q1, q2, Option.bind_some, Option.bind_some, if_neg (show ¬ true = false by decide), if_neg (show ¬ true = false by decide)]
            have eE : f_E_ends 84 σ4 = some (true, σe) := by
              unfold f_E_ends
              rw [q5.2.1, if_pos (tgb_of q5.1), f1]
              rfl
            rw [eE, Option.bind_some, if_neg (show ¬ true = false by decide)]
            have r4 : ∀ k, 1 ≤ k → k ≤ 4 → vJ σ4 (r + k) = vJ σb (r + k) := fun k k1 k2 => by rw [q12.2.1 _ (by omega)]; rfl
            refine Or.inl ⟨σe, τ4, a4, L ++ K, (w, v, K), rfl, rfl, by omega, ⟨q4.of (fun f => f6 84 f (Or.inl (by omega))) (f4 85 (by omega)), q5.of (f8 84) (f6 r 6 (Or.inr (by decide))) (f4 (r + 5) (by omega)), q6, ⟨hj, q7⟩, ⟨q8, q9⟩, ⟨by rw [f5, List.length_append]; rfl, ?_, ?_⟩, fun i c hc => ?_, fun i hi => ?_⟩, (frb.tr (FE.at.fr.tr q12.fr)).tr ⟨fun k f _ q => f6 k f (Or.inl q), fun k q => f4 k (by omega), f7, f8⟩, (g2.tr gm3).tr (q13.hm (by omega))⟩
            · rw [f6 r 7 (Or.inr (by decide)), q12.1 r 7 (by omega) (by omega), vI_sI, if_neg (by omega), b7', leA_app]
            · rw [f6 r 8 (Or.inr (by decide)), q12.1 r 8 (by omega) (by omega), vI_sI, if_neg (by omega), b8', fuA_app]
            · rcases app_get hc with ⟨hi, hc'⟩ | ⟨hi, hc'⟩
              · refine (hC i c hc').c (old4 (fun k k1 k2 => by rw [f4 _ (by omega), r4 k k1 (by omega)]) (fun i hi => by rw [f3 i hi, r4 4 (by decide) (by decide)]) i hi) (fun k k1 k2 => ?_) (by simp) (fun k t q => app_left q)
                rcases (show k = 10 ∨ k = 11 ∨ k = 12 ∨ k = 13 by omega) with rfl | rfl | rfl | rfl
                · rw [q13.2.1 10 (by decide)]; show vJ τ2 10 _ = _; rw [t10, upd_n (by omega)]
                · rw [q13.2.1 11 (by decide)]; show vJ τ2 11 _ = _; rw [t11, upd_n (by omega)]
                · rw [(q13.2.2.1 _ (by omega)).1]; show vJ τ2 12 _ = _; rw [t12]
                · rw [(q13.2.2.1 _ (by omega)).2]; show vJ τ2 13 _ = _; rw [t13]
              · subst hi hc'
                refine ⟨⟨by rw [f4 (r + 1) (by omega), r4 1 (by decide) (by decide)]; exact b2, by rw [f4 (r + 2) (by omega), r4 2 (by decide) (by decide)]; exact b3, by rw [q13.2.1 10 (by decide)]; show vJ τ2 10 _ = _; rw [t10, ← hxe, upd_s], by rw [q13.2.1 11 (by decide)]; show vJ τ2 11 _ = _; rw [t11, ← hxe, upd_s], hw, hv⟩, fun hq => ⟨L.length, by rw [f4 (r + 3) (by omega), r4 3 (by decide) (by decide)]; exact b4', by rw [f2, q5.2.2.1, List.length_append], by rw [← hxe]; exact q10, by rw [← hxe, q11, List.length_append]; congr 1; simp only; omega, by rw [List.length_append]; exact Nat.le_refl _, q14, fun k t hk => ?_⟩⟩
                rw [List.getElem?_append_right (by omega), Nat.add_sub_cancel_left]; exact hk
            · rw [q13.2.1 16 (by decide)]; show vJ τ2 16 i = _; rw [t16]; exact hR8 i hi
          · rw [q1, q2, Option.bind_some, Option.bind_some, if_pos rfl, if_pos rfl]
            exact Or.inr ⟨σ4, τ4, a4, rfl, rfl, q3, q4, frb.tr (FE.at.fr.tr q5.fr), (g2.tr gm3).tr (q6.hm (by omega))⟩
        · rw [if_neg c32, if_neg c32, Option.bind_some, Option.bind_some, if_pos rfl, if_pos rfl]
          exact Or.inr ⟨σb, τ2, a2, rfl, rfl, hXb, hM2, frb, g2⟩
    · have eB : f_E_begins 84 (nI w) (sI σ 84 2 (nI a1)) = some (false, sI σ 84 2 (nI a1)) := by
        unfold f_E_begins
        rw [x_number hX1, Option.bind_some]
        simp only [if_neg hnu]
        rw [if_neg (by decide), nu_f hnu, sI_sI]
      have eX : rest w (sI σ 84 2 (nI a1)) = some (false, sI σ 84 2 (nI a1)) := by
        unfold rest restS restE
        rw [eB]
        by_cases c : w = 1 ∨ w = 2
        · rw [if_pos c]; rfl
        · rw [if_neg c]; rfl
      rw [eX]
      simp only [if_neg hnu]
      rw [if_pos (Bool.eq_false_iff.mpr hnu)]
      exact Or.inr ⟨_, _, a1, rfl, rfl, hX1, hM1, FE.at.fr, hm10 _ _⟩
  · rw [ex, em, Option.bind_some, if_pos rfl]
    exact Or.inr ⟨_, _, a1, rfl, rfl, hX.to l2, MT.to (a := a) (show MT T s a (sJ τ 10 (upd (vJ τ 10) x w)) from hM) l2, FE.at.fr, hm10 _ _⟩

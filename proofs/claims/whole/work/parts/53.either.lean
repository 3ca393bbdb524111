/-! ===== PURE: an expression: the class going down, the reference with its pile of waiting signs ===== -/
def FaS (F : Nat → Int32 → St → Option (Bool × St)) (o : Nat) : Prop := ∀ {T : Nat → Nat} {s r j x a m : Nat} {L W : List Nat} {σ τ : St}, x < 60 → XT T s a σ → XL r L σ → MT T s a τ → ML j a L W τ → opn W = o → 200 ≤ a + m →
  (∃ σ' K a' m' τ', F 84 (nI o) σ = some (true, σ') ∧ f_M_takesE_l22 m 0 (nI x) 1 τ = f_M_takesE_l22 m' 0 (nI x) 0 τ' ∧ a < a' ∧ 200 ≤ a' + m' ∧ XT T s a' σ' ∧ XL r (L ++ K) σ' ∧ MT T s a' τ' ∧ ML j a' (L ++ K ++ List.replicate (nb W) 0) (strip W) τ' ∧ FE r σ σ' ∧ GM j x τ τ' ∧ ∀ d, d + 2 * (4 - o) ≤ 29 → dep K d = some (d + 1)) ∨
  (∃ σ' a' τ', F 84 (nI o) σ = some (false, σ') ∧ f_M_takesE_l22 m 0 (nI x) 1 τ = some (Sum.inr (false, τ')) ∧ XT T s a' σ' ∧ MT T s a' τ' ∧ FE r σ σ' ∧ GM j x τ τ')
def EiS (F : Nat → Int32 → St → Option (Bool × St)) (o : Nat) : Prop := ∀ {T : Nat → Nat} {s r j x a m : Nat} {L B : List Nat} {σ τ : St}, x < 60 → XT T s a σ → XL r L σ → MT T s a τ → ML j a L B τ → opn B = o → (B = [] ∨ ∃ B', B = 40 :: B') → 200 ≤ a + m →
  (∃ σ' K a' m' τ' τ'', F 84 (nI o) σ = some (true, σ') ∧ f_M_takesE_l22 m 0 (nI x) 1 τ = f_M_takesE_l22 m' 0 (nI x) 0 τ' ∧ a < a' ∧ 200 ≤ a' + m' ∧ f_M_settle 0 124 τ' = some τ'' ∧ ¬ sg T s a' = 38 ∧ ¬ sg T s a' = 124 ∧ XT T s a' σ' ∧ XL r (L ++ K) σ' ∧ MT T s a' τ' ∧ MT T s a' τ'' ∧ ML j a' (L ++ K) B τ'' ∧ FE r σ σ' ∧ GM j x τ τ'' ∧ ∀ d, d + 2 * (4 - o) ≤ 27 → dep K d = some (d + 1)) ∨
  (∃ σ' a' τ', F 84 (nI o) σ = some (false, σ') ∧ f_M_takesE_l22 m 0 (nI x) 1 τ = some (Sum.inr (false, τ')) ∧ XT T s a' σ' ∧ MT T s a' τ' ∧ FE r σ σ' ∧ GM j x τ τ')
theorem ML.ti {j a : Nat} {L W : List Nat} {τ : St} (h : ML j a L W τ) : vI τ 0 24 = nI W.length ∧ vI τ 0 25 = nI (opn W) ∧ L.length + W.length + 6 ≤ a ∧ a ≤ 100 := ⟨h.2.2.1.1, h.2.2.1.2.1, h.1.2.2, h.1.2.1⟩
theorem opn_le (W : List Nat) : opn W ≤ W.length := by
  induction W with
  | nil => exact Nat.le_refl _
  | cons x W ih => simp only [opn, List.length_cons]; split <;> omega
theorem m_lp {T : Nat → Nat} {s a x w m : Nat} {τ : St} (hm : MT T s a τ) (h : 200 ≤ a + m) : ∃ n, m = n + 1 ∧ 200 ≤ a + 1 + n := ⟨m - 1, by have := hm.1; omega, by have := hm.1; omega⟩
/-- a factor, when what is within goes right -/
theorem fac_ok {fe ff : Nat → Int32 → St → Option (Bool × St)} {o : Nat} (ho : o ≤ 4) (he : o < 4 → EiS fe (o + 1)) (hf : o < 4 → FaS ff (o + 1)) : FaS (f_E_factor fe ff) o := by
  intro T s r j x a m L W σ τ hx hX hXL hM hML hop hm
  obtain ⟨m5, m6, m3, ma⟩ := hML.ti
  have hr := hXL.r
  obtain ⟨n, rfl, hn⟩ := m_lp (x := 0) (w := 0) hM hm
  have e4 : (nI o < 4) = (o < 4) := by rw [show (4 : Int32) = nI 4 by decide]; exact nIlt (by omega) (by decide)
  have e4' : (nI o = 4) = (o = 4) := by rw [show (4 : Int32) = nI 4 by decide]; exact nIeq (by omega) (by decide)
  unfold f_E_factor
  rw [f_M_takesE_l22, x_sign hX, m_peek hM, Option.bind_some, Option.bind_some, Option.bind_some, if_neg (show ¬ (1 : Int32) = 0 by decide), m6, hop]
  by_cases c1 : sg T s a = 33
  · rw [c1, if_pos rfl, if_pos rfl]
    have has : a < s := sg_lt c1 (by decide)
    by_cases h4 : o < 4
    · rw [if_pos (by rw [e4]; exact h4), if_neg (by rw [e4']; omega), x_skips hX, if_neg (by rw [c1]; decide), Option.bind_some, if_pos rfl]
      simp only [st, hX.2.2.1, nI_1]
      have hX1 : XT T s (a + 1) (sI σ 84 2 (nI (a + 1))) := hX.to (by omega)
      have ow : opn (33 :: W) = opn W + 1 := by simp [opn]; omega
      have hM25 : MT T s a (sI τ 0 25 (nI (o + 1))) := hM
      have hM1 : MT T s (a + 1) (psh (sI τ 0 25 (nI (o + 1))) W.length a 33) := psh_mt hM25 has
      have hML1 : ML j (a + 1) L (33 :: W) (psh (sI τ 0 25 (nI (o + 1))) W.length a 33) := by
        rw [← hop]; exact psh_ml1 hML (by decide) ow (by have := hM.1; omega)
      have eM : (if ok (vI (sI τ 0 25 (nI (o + 1))) 0 24) 101 = true then f_M_takesE_l22 n 0 (nI x) 1 (sI (sI (sJ (sI τ 0 25 (nI (o + 1))) 15 (upd (vJ (sI τ 0 25 (nI (o + 1))) 15) (nx (vI (sI τ 0 25 (nI (o + 1))) 0 24)) 33)) 0 24 (vI (sJ (sI τ 0 25 (nI (o + 1))) 15 (upd (vJ (sI τ 0 25 (nI (o + 1))) 15) (nx (vI (sI τ 0 25 (nI (o + 1))) 0 24)) 33)) 0 24 + 1)) 0 13 (vI (sI (sJ (sI τ 0 25 (nI (o + 1))) 15 (upd (vJ (sI τ 0 25 (nI (o + 1))) 15) (nx (vI (sI τ 0 25 (nI (o + 1))) 0 24)) 33)) 0 24 (vI (sJ (sI τ 0 25 (nI (o + 1))) 15 (upd (vJ (sI τ 0 25 (nI (o + 1))) 15) (nx (vI (sI τ 0 25 (nI (o + 1))) 0 24)) 33)) 0 24 + 1)) 0 13 + 1)) else none) = f_M_takesE_l22 n 0 (nI x) 1 (psh (sI τ 0 25 (nI (o + 1))) W.length a 33) := psh_eq (τ := sI τ 0 25 (nI (o + 1))) (v := 33) m5 hM.2.2.1 (by omega) (fun s19 => f_M_takesE_l22 n 0 (nI x) 1 s19)
      rw [eM]
      rcases hf h4 hx hX1 hXL.at hM1 hML1 (by rw [ow, hop]) hn with ⟨σ', K, a', m', τ', q1, q2, q3, q4, q5, q6, q7, q8, q9, q10, q11⟩ | ⟨σ', a', τ', q1, q2, q3, q4, q5, q6⟩
      · rw [q1, Option.bind_some, if_neg (show ¬ true = false by decide), q6.2.1, if_pos (tgb_of q6.1)]
        have hl := q8.ti
        obtain ⟨σ2, s1, s2, s3⟩ := x_step 0 q6 (by simp at hl ⊢; omega)
        rw [xe_0] at s1
        rw [s1, Option.bind_some]
        refine Or.inl ⟨σ2, K ++ [0], a', m', τ', rfl, q2, by omega, q4, s3.xt hr q5, by rw [← List.append_assoc]; exact s2, q7, ?_, (FE.at.tr q9).tr s3.fe, psh_gm1.tr q10, fun d hd => ?_⟩
        · have n1 : nb (33 :: W) = nb W + 1 := by simp [nb]
          have n2 : strip (33 :: W) = strip W := by simp [strip]
          rw [n1, n2, List.replicate_succ] at q8
          simpa [List.append_assoc] using q8
        · rw [dep_app, q11 d (by omega), Option.bind_some]
          simp [dep, dep1]
      · rw [q1, Option.bind_some, if_pos rfl]
        exact Or.inr ⟨σ', a', τ', rfl, q2, q3, q4, FE.at.tr q5, psh_gm1.tr q6⟩
    · rw [if_neg (by rw [e4]; exact h4), if_pos (by rw [e4']; omega)]
      exact Or.inr ⟨σ, a, τ, rfl, rfl, hX, hM, FE.rf, GM.rf⟩
  rw [if_neg c1, if_neg c1]
  by_cases c2 : sg T s a = 40
  · rw [c2, if_pos rfl, if_pos rfl]
    have has : a < s := sg_lt c2 (by decide)
    by_cases h4 : o < 4
    · rw [if_pos (by rw [e4]; exact h4), if_neg (by rw [e4']; omega), x_skips hX, if_pos c2, Option.bind_some, if_neg (show ¬ true = false by decide)]
      simp only [st, nI_1]
      have hX1 : XT T s (a + 1) (sI σ 84 2 (nI (a + 1))) := hX.to (by omega)
      have ow : opn (40 :: W) = opn W + 1 := by simp [opn]; omega
      have hM25 : MT T s a (sI τ 0 25 (nI (o + 1))) := hM
      have hM1 : MT T s (a + 1) (psh (sI τ 0 25 (nI (o + 1))) W.length a 40) := psh_mt hM25 has
      have hML1 : ML j (a + 1) L (40 :: W) (psh (sI τ 0 25 (nI (o + 1))) W.length a 40) := by
        rw [← hop]; exact psh_ml1 hML (by decide) ow (by have := hM.1; omega)
      have eM : (if ok (vI (sI τ 0 25 (nI (o + 1))) 0 24) 101 = true then f_M_takesE_l22 n 0 (nI x) 1 (sI (sI (sJ (sI τ 0 25 (nI (o + 1))) 15 (upd (vJ (sI τ 0 25 (nI (o + 1))) 15) (nx (vI (sI τ 0 25 (nI (o + 1))) 0 24)) 40)) 0 24 (vI (sJ (sI τ 0 25 (nI (o + 1))) 15 (upd (vJ (sI τ 0 25 (nI (o + 1))) 15) (nx (vI (sI τ 0 25 (nI (o + 1))) 0 24)) 40)) 0 24 + 1)) 0 13 (vI (sI (sJ (sI τ 0 25 (nI (o + 1))) 15 (upd (vJ (sI τ 0 25 (nI (o + 1))) 15) (nx (vI (sI τ 0 25 (nI (o + 1))) 0 24)) 40)) 0 24 (vI (sJ (sI τ 0 25 (nI (o + 1))) 15 (upd (vJ (sI τ 0 25 (nI (o + 1))) 15) (nx (vI (sI τ 0 25 (nI (o + 1))) 0 24)) 40)) 0 24 + 1)) 0 13 + 1)) else none) = f_M_takesE_l22 n 0 (nI x) 1 (psh (sI τ 0 25 (nI (o + 1))) W.length a 40) := psh_eq (τ := sI τ 0 25 (nI (o + 1))) (v := 40) m5 hM.2.2.1 (by omega) (fun s19 => f_M_takesE_l22 n 0 (nI x) 1 s19)
      rw [eM]
      rcases he h4 hx hX1 hXL.at hM1 hML1 (by rw [ow, hop]) (Or.inr ⟨W, rfl⟩) hn with ⟨σ', K, a', m', τ', τ'', q1, q2, q3, q4, q5, q6, q7, q8, q9, q10, q11, q12, q13, q14, q15⟩ | ⟨σ', a', τ', q1, q2, q3, q4, q5, q6⟩
      · rw [q1, Option.bind_some, if_neg (show ¬ true = false by decide), x_skips q8, q2]
        obtain ⟨n2, rfl, hn2⟩ := m_lp (x := 0) (w := 0) q10 q4
        obtain ⟨w5, w6, w3, wa⟩ := q12.ti
        simp only [List.length_cons] at w5 w3
        rw [f_M_takesE_l22, m_peek q10, Option.bind_some, if_pos rfl, if_neg q6, if_neg q7, q5, Option.bind_some, if_pos (ok_nI hx (by decide)), nx_nI (by omega)]
        have t24 : vI (sJ τ'' 13 (upd (vJ τ'' 13) x (vI τ'' 0 23))) 0 24 = nI (W.length + 1) := w5
        have t25 : vI (sJ τ'' 13 (upd (vJ τ'' 13) x (vI τ'' 0 23))) 0 25 = nI (opn W + 1) := w6.trans (by rw [ow])
        have t13 : vI (sJ τ'' 13 (upd (vJ τ'' 13) x (vI τ'' 0 23))) 0 13 = nI a' := q11.2.2.1
        have gx : GM j x τ'' (sJ τ'' 13 (upd (vJ τ'' 13) x (vI τ'' 0 23))) := ⟨fun _ _ _ _ _ _ => rfl, fun k k1 _ _ => by rw [vJ_sJ, if_neg k1], fun i hi => upd_n hi, fun _ _ => rfl, fun _ => rfl⟩
        have hMx : MT T s a' (sJ τ'' 13 (upd (vJ τ'' 13) x (vI τ'' 0 23))) := q11
        simp only [st]
        rw [t24, if_neg (show ¬ nI (W.length + 1) = 0 by rw [← nI_0, nIeq (by omega) (by decide)]; omega)]
        by_cases c3 : sg T s a' = 41
        · have ha' : a' < s := sg_lt c3 (by decide)
          rw [if_pos c3, if_pos c3, Option.bind_some, if_neg (show ¬ true = false by decide), show nI (W.length + 1) - 1 = nI W.length from nI_pred _]
          have u1 : vI (sI (sJ τ'' 13 (upd (vJ τ'' 13) x (vI τ'' 0 23))) 0 24 (nI W.length)) 0 25 - 1 = nI (opn W) := by
            rw [show vI (sI (sJ τ'' 13 (upd (vJ τ'' 13) x (vI τ'' 0 23))) 0 24 (nI W.length)) 0 25 = nI (opn W + 1) from t25]; exact nI_pred _
          have u2 : vI (sI (sI (sJ τ'' 13 (upd (vJ τ'' 13) x (vI τ'' 0 23))) 0 24 (nI W.length)) 0 25 (nI (opn W))) 0 13 + 1 = nI (a' + 1) := by
            rw [show vI (sI (sI (sJ τ'' 13 (upd (vJ τ'' 13) x (vI τ'' 0 23))) 0 24 (nI W.length)) 0 25 (nI (opn W))) 0 13 = nI a' from t13]; exact nI_1 _
          rw [u1, u2]
          have hML3 : ML j (a' + 1) (L ++ K) W (sI (sI (sI (sJ τ'' 13 (upd (vJ τ'' 13) x (vI τ'' 0 23))) 0 24 (nI W.length)) 0 25 (nI (opn W))) 0 13 (nI (a' + 1))) := by
            obtain ⟨⟨z1, z2, z3⟩, z4, ⟨z5, z6, z7⟩, z8⟩ := q12
            exact ⟨⟨z1, by have := q11.1; omega, by simp only [List.length_cons] at z3; omega⟩, z4, ⟨rfl, rfl, z7.2.2⟩, z8⟩
          have hM3 : MT T s (a' + 1) (sI (sI (sI (sJ τ'' 13 (upd (vJ τ'' 13) x (vI τ'' 0 23))) 0 24 (nI W.length)) 0 25 (nI (opn W))) 0 13 (nI (a' + 1))) := ⟨⟨q11.1.1, ha'⟩, q11.2.1, rfl, q11.2.2.2⟩
          have g3 : GM j x (sJ τ'' 13 (upd (vJ τ'' 13) x (vI τ'' 0 23))) (sI (sI (sI (sJ τ'' 13 (upd (vJ τ'' 13) x (vI τ'' 0 23))) 0 24 (nI W.length)) 0 25 (nI (opn W))) 0 13 (nI (a' + 1))) := ⟨fun f f1 f2 f3 f4 f5 => by rw [vI_sI, if_pos rfl, if_neg f1, vI_sI, if_pos rfl, if_neg f5, vI_sI, if_pos rfl, if_neg f4], fun _ _ _ _ => rfl, fun _ _ => rfl, fun _ _ => rfl, fun _ => rfl⟩
          obtain ⟨τ4, v1, v2, v3⟩ := m_whole hML3
          rw [v1, Option.bind_some]
          exact Or.inl ⟨_, K, a' + 1, n2, τ4, rfl, rfl, by omega, by omega, q8.to ha', q9.at, v3.mt hM3, v2, (FE.at.tr q13).tr FE.at, (psh_gm1.tr q14).tr (gx.tr (g3.tr v3.gm)), fun d hd => q15 d (by omega)⟩
        · rw [if_neg c3, if_neg c3, Option.bind_some, if_pos rfl]
          exact Or.inr ⟨σ', a', _, rfl, rfl, q8, hMx, FE.at.tr q13, (psh_gm1.tr q14).tr gx⟩
      · rw [q1, Option.bind_some, if_pos rfl]
        exact Or.inr ⟨σ', a', τ', rfl, q2, q3, q4, FE.at.tr q5, psh_gm1.tr q6⟩
    · rw [if_neg (by rw [e4]; exact h4), if_pos (by rw [e4']; omega)]
      exact Or.inr ⟨σ, a, τ, rfl, rfl, hX, hM, FE.rf, GM.rf⟩
  rw [if_neg c2, if_neg c2]
  rcases test2 hX (by rw [hXL.2.1]; exact hXL.1) hM with ⟨t, a', v, t3, t18, la, ls, ex, em⟩ | ⟨a', ls, ex, em⟩
  · obtain ⟨τ1, v1, v2, v3⟩ := hML.test (t := t) (n := v) la (by have := hX.1; omega)
    obtain ⟨τ2, w1, w2, w3⟩ := m_whole v2
    obtain ⟨σ2, s1, s2, s3⟩ := x_step t (hXL.at (v := nI a')) (by omega)
    have hM1 : MT T s a' (sI (sI τ 0 14 v) 0 13 (nI a')) := MT.to (a := a) (show MT T s a (sI τ 0 14 v) from hM) ls
    rw [ex, hXL.2.1, s1, em, v1, Option.bind_some, Option.bind_some, Option.bind_some, w1, Option.bind_some, Option.bind_some, if_neg (show ¬ true = false by decide)]
    refine Or.inl ⟨σ2, [t], a', n, τ2, rfl, rfl, by omega, by omega, s3.xt hr (hX.to ls), s2, w3.mt (v3.mt hM1), w2, FE.at.tr s3.fe, (GM.nr.tr GM.at).tr (v3.gm.tr w3.gm), fun d hd => ?_⟩
    simp only [dep, dep1]
    rw [if_neg (by omega), if_neg (by omega), if_pos (by omega)]
    rfl
  · rw [ex, em, Option.bind_some, Option.bind_some, if_pos rfl]
    exact Or.inr ⟨_, a', _, rfl, rfl, hX.to ls, hM.to ls, FE.at, GM.at⟩
theorem opn_qp {Q P B : List Nat} (hQ : Q = [] ∨ Q = [38]) (hP : P = [] ∨ P = [124]) : opn (Q ++ (P ++ B)) = opn B := by
  rcases hQ with rfl | rfl <;> rcases hP with rfl | rfl <;> simp [opn]
theorem nb_qp {Q P B : List Nat} (hQ : Q = [] ∨ Q = [38]) (hP : P = [] ∨ P = [124]) (hB : B = [] ∨ ∃ B', B = 40 :: B') : nb (Q ++ (P ++ B)) = 0 ∧ strip (Q ++ (P ++ B)) = Q ++ (P ++ B) := by
  rcases hQ with rfl | rfl <;> rcases hP with rfl | rfl <;> rcases hB with rfl | ⟨B', rfl⟩ <;> simp [nb, strip]
/-- what is joined by and, behind its first factor -/
theorem ands {ff : Nat → Int32 → St → Option (Bool × St)} {o : Nat} (hf : FaS ff o) {T : Nat → Nat} {s r j x : Nat} {P B : List Nat} {x2 : Int32} (hx : x < 60) (hP : P = [] ∨ P = [124]) (hB : B = [] ∨ ∃ B', B = 40 :: B') (hop : opn B = o) : ∀ (k n f a m : Nat) (L Q : List Nat) (σ τ : St), s ≤ a + k → k < n → f + 1 ≤ a → (Q = [] ∨ Q = [38]) → XT T s a σ → XL r (L ++ Q.map wt) σ → MT T s a τ → ML j a L (Q ++ (P ++ B)) τ → 200 ≤ a + m →
    (∃ σ' K a' m' τ' L' Q', f_E_either_l20 ff n 84 (nI o) x2 (nI f) σ = some (Sum.inl σ') ∧ f_M_takesE_l22 m 0 (nI x) 0 τ = f_M_takesE_l22 m' 0 (nI x) 0 τ' ∧ a ≤ a' ∧ 200 ≤ a' + m' ∧ ¬ sg T s a' = 38 ∧ (Q' = [] ∨ Q' = [38]) ∧ L' ++ Q'.map wt = L ++ Q.map wt ++ K ∧ XT T s a' σ' ∧ XL r (L ++ Q.map wt ++ K) σ' ∧ MT T s a' τ' ∧ ML j a' L' (Q' ++ (P ++ B)) τ' ∧ FE r σ σ' ∧ GM j x τ τ' ∧ ∀ d, d + 1 + 2 * (4 - o) ≤ 29 → dep K (d + 1) = some (d + 1)) ∨
    (∃ σ' a' τ', f_E_either_l20 ff n 84 (nI o) x2 (nI f) σ = some (Sum.inr (false, σ')) ∧ f_M_takesE_l22 m 0 (nI x) 0 τ = some (Sum.inr (false, τ')) ∧ XT T s a' σ' ∧ MT T s a' τ' ∧ FE r σ σ' ∧ GM j x τ τ') := by
  intro k
  induction k with
  | zero =>
    intro n f a m L Q σ τ hk hn hfa hQ hX hXL hM hML hm
    obtain ⟨n, rfl⟩ : ∃ z, n = z + 1 := ⟨n - 1, by omega⟩
    have c : ¬ sg T s a = 38 := fun e => by have := sg_lt e (by decide); omega
    have := hX.1
    rw [f_E_either_l20, if_neg (by rw [show (100 : Int32) = nI 100 by decide, nIle (by decide) (by omega)]; omega), x_skips hX, if_neg c, Option.bind_some, if_pos rfl]
    exact Or.inl ⟨σ, [], a, m, τ, L, Q, rfl, rfl, Nat.le_refl _, hm, c, hQ, by simp, hX, by simpa using hXL, hM, hML, FE.rf, GM.rf, fun d _ => rfl⟩
  | succ k ih =>
    intro n f a m L Q σ τ hk hn hfa hQ hX hXL hM hML hm
    obtain ⟨n, rfl⟩ : ∃ z, n = z + 1 := ⟨n - 1, by omega⟩
    have hs100 := hX.1
    rw [f_E_either_l20, if_neg (by rw [show (100 : Int32) = nI 100 by decide, nIle (by decide) (by omega)]; omega), x_skips hX]
    by_cases c : sg T s a = 38
    · have has := sg_lt c (by decide)
      obtain ⟨m, rfl, hm1⟩ := m_lp (x := 0) (w := 0) hM hm
      rw [if_pos c, Option.bind_some, if_neg (show ¬ true = false by decide), f_M_takesE_l22, m_peek hM, Option.bind_some, if_pos rfl, c, if_pos rfl]
      have hU : ∀ u, u ∈ Q → u = 38 ∨ (u = 124 ∧ (38 : Int32) ≠ 38) := by
        rcases hQ with rfl | rfl
        · intro u hu; cases hu
        · intro u hu; exact Or.inl (List.mem_singleton.mp hu)
      have hBB : P ++ B = [] ∨ (∃ B', P ++ B = 40 :: B') ∨ ((∃ B', P ++ B = 124 :: B') ∧ (38 : Int32) = 38) := by
        rcases hP with rfl | rfl
        · rcases hB with rfl | ⟨B', rfl⟩
          · exact Or.inl rfl
          · exact Or.inr (Or.inl ⟨B', rfl⟩)
        · exact Or.inr (Or.inr ⟨⟨B, rfl⟩, rfl⟩)
      obtain ⟨τ1, e1, g1, g2⟩ := m_settle hBB hU hML
      have ho1 : opn (38 :: (P ++ B)) = opn (P ++ B) := by simp [opn]
      have hM1 := g2.mt hM
      have hML2 := psh_ml (v := 38) g1 (by decide) ho1 (by omega)
      have hM2 : MT T s (a + 1) (psh τ1 (P ++ B).length a 38) := psh_mt hM1 has
      have eM : (if ok (vI τ1 0 24) 101 = true then (st (sJ τ1 15 (upd (vJ τ1 15) (nx (vI τ1 0 24)) 38)) fun s15 => (st (sI s15 0 24 ((vI s15 0 24) + 1)) fun s17 => (st (sI s17 0 13 ((vI s17 0 13) + 1)) fun s19 => (f_M_takesE_l22 m 0 (nI x) 1 s19)))) else none) = f_M_takesE_l22 m 0 (nI x) 1 (psh τ1 (P ++ B).length a 38) := psh_eq (v := 38) g1.ti.1 hM1.2.2.1 (by have := g1.ti; omega) (fun s19 => f_M_takesE_l22 m 0 (nI x) 1 s19)
      rw [e1, Option.bind_some, eM]
      have hq := nb_qp (Q := [38]) (Or.inr rfl) hP hB
      have ho := opn_qp (Q := [38]) (B := B) (Or.inr rfl) hP
      rcases hf hx (hX.to (by omega)) hXL.at hM2 hML2 (ho.trans hop) hm1 with ⟨σ', K, a', m', τ', q1, q2, q3, q4, q5, q6, q7, q8, q9, q10, q11⟩ | ⟨σ', a', τ', q1, q2, q3, q4, q5, q6⟩
      · have q8' : ML j a' (L ++ Q.map wt ++ K) ([38] ++ (P ++ B)) τ' := by
          have z := q8
          rw [show (38 :: (P ++ B) : List Nat) = [38] ++ (P ++ B) from rfl, hq.1, hq.2, List.replicate_zero, List.append_nil] at z
          exact z
        obtain ⟨σ2, s1, s2, s3⟩ := x_step 1 q6 (by have := q8'.ti; simp at this ⊢; omega)
        rw [xe_1] at s1
        rw [q1, Option.bind_some, if_neg (show ¬ true = false by decide), q6.2.1, if_pos (tgb_of q6.1), s1, Option.bind_some, nI_1, q2]
        have hr := q6.r
        rcases ih n (f + 1) a' m' (L ++ Q.map wt ++ K) [38] σ2 τ' (by omega) (by omega) (by omega) (Or.inr rfl) (s3.xt hr q5) s2 q7 q8' q4 with ⟨σ3, K3, a3, m3, τ3, L3, Q3, p1, p2, p3, p4, p5, p6, p7, p8, p9, p10, p11, p12, p13, p14⟩ | ⟨σ3, a3, τ3, p1, p2, p3, p4, p5, p6⟩
        · refine Or.inl ⟨σ3, K ++ [1] ++ K3, a3, m3, τ3, L3, Q3, p1, p2, by omega, p4, p5, p6, ?_, p8, ?_, p10, p11, ((FE.at.tr q9).tr s3.fe).tr p12, ((g2.gm.tr psh_gm).tr q10).tr p13, fun d hd => ?_⟩
          · rw [p7]; simp [wt, List.append_assoc]
          · simpa [wt, List.append_assoc] using p9
          · rw [dep_app, dep_app, q11 (d + 1) hd, Option.bind_some]
            have : dep [1] (d + 1 + 1) = some (d + 1) := by simp [dep, dep1]
            rw [this, Option.bind_some, p14 d hd]
        · exact Or.inr ⟨σ3, a3, τ3, p1, p2, p3, p4, ((FE.at.tr q9).tr s3.fe).tr p5, ((g2.gm.tr psh_gm).tr q10).tr p6⟩
      · rw [q1, Option.bind_some, if_pos rfl]
        exact Or.inr ⟨σ', a', τ', rfl, q2, q3, q4, FE.at.tr q5, (g2.gm.tr psh_gm).tr q6⟩
    · rw [if_neg c, Option.bind_some, if_pos rfl]
      exact Or.inl ⟨σ, [], a, m, τ, L, Q, rfl, rfl, Nat.le_refl _, hm, c, hQ, by simp, hX, by simpa using hXL, hM, hML, FE.rf, GM.rf, fun d _ => rfl⟩
/-- what is joined by or -/
theorem ors {ff : Nat → Int32 → St → Option (Bool × St)} {o : Nat} (hf : FaS ff o) {T : Nat → Nat} {s r j x : Nat} {B : List Nat} (hx : x < 60) (hB : B = [] ∨ ∃ B', B = 40 :: B') (hop : opn B = o) : ∀ (k n t a m : Nat) (P L : List Nat) (σ τ : St), s ≤ a + k → k < n → t + 1 ≤ a → (t = 0 ∧ P = [] ∨ 0 < t ∧ P = [124]) → XT T s a σ → XL r L σ → MT T s a τ → ML j a L (P ++ B) τ → 200 ≤ a + m →
    (∃ σ' K a' m' τ' τ'', f_E_either_l2 ff n 84 (nI o) (nI t) σ = some (Sum.inr (true, σ')) ∧ f_M_takesE_l22 m 0 (nI x) 1 τ = f_M_takesE_l22 m' 0 (nI x) 0 τ' ∧ a < a' ∧ 200 ≤ a' + m' ∧ f_M_settle 0 124 τ' = some τ'' ∧ ¬ sg T s a' = 38 ∧ ¬ sg T s a' = 124 ∧ XT T s a' σ' ∧ XL r (L ++ K) σ' ∧ MT T s a' τ' ∧ MT T s a' τ'' ∧ ML j a' (L ++ K) B τ'' ∧ FE r σ σ' ∧ GM j x τ τ'' ∧ ∀ d, d + 2 * (4 - o) ≤ 27 → dep K (d + P.length) = some (d + 1)) ∨
    (∃ σ' a' τ', f_E_either_l2 ff n 84 (nI o) (nI t) σ = some (Sum.inr (false, σ')) ∧ f_M_takesE_l22 m 0 (nI x) 1 τ = some (Sum.inr (false, τ')) ∧ XT T s a' σ' ∧ MT T s a' τ' ∧ FE r σ σ' ∧ GM j x τ τ') := by
  intro k
  induction k with
  | zero =>
    intro n t a m P L σ τ hk hn hta hP hX hXL hM hML hm
    have hs100 := hX.1
    obtain ⟨n, rfl⟩ : ∃ z, n = z + 1 := ⟨n - 1, by omega⟩
    have hP' : P = [] ∨ P = [124] := hP.elim (fun q => Or.inl q.2) (fun q => Or.inr q.2)
    have hq := nb_qp (Q := []) (Or.inl rfl) hP' hB
    have ho := opn_qp (Q := []) (B := B) (Or.inl rfl) hP'
    rw [f_E_either_l2, if_neg (by rw [show (100 : Int32) = nI 100 by decide, nIle (by decide) (by omega)]; omega)]
    rcases hf hx hX hXL hM hML (ho.trans hop) hm with ⟨σ', K, a', m', τ', q1, q2, q3, q4, q5, q6, q7, q8, q9, q10, q11⟩ | ⟨σ', a', τ', q1, q2, q3, q4, q5, q6⟩
    · have := q5.1; omega
    · rw [q1, Option.bind_some, if_pos rfl]
      exact Or.inr ⟨σ', a', τ', rfl, q2, q3, q4, q5, q6⟩
  | succ k ih =>
    intro n t a m P L σ τ hk hn hta hP hX hXL hM hML hm
    have hs100 := hX.1
    obtain ⟨n, rfl⟩ : ∃ z, n = z + 1 := ⟨n - 1, by omega⟩
    have hP' : P = [] ∨ P = [124] := hP.elim (fun q => Or.inl q.2) (fun q => Or.inr q.2)
    have hq := nb_qp (Q := []) (Or.inl rfl) hP' hB
    have ho := opn_qp (Q := []) (B := B) (Or.inl rfl) hP'
    simp only [List.nil_append] at hq ho
    rw [f_E_either_l2, if_neg (by rw [show (100 : Int32) = nI 100 by decide, nIle (by decide) (by omega)]; omega)]
    rcases hf hx hX hXL hM hML (ho.trans hop) hm with ⟨σ1, K1, a1, m1, τ1, q1, q2, q3, q4, q5, q6, q7, q8, q9, q10, q11⟩ | ⟨σ', a', τ', q1, q2, q3, q4, q5, q6⟩
    · rw [hq.1, hq.2, List.replicate_zero, List.append_nil] at q8
      rw [q1, Option.bind_some, if_neg (show ¬ true = false by decide), q2]
      have hl1 := q5.1
      rcases ands (x2 := nI t) hf hx hP' hB hop 101 FU 0 a1 m1 (L ++ K1) [] σ1 τ1 (by omega) (by unfold FU; omega) (by omega) (Or.inl rfl) q5 (by simpa using q6) q7 q8 q4 with ⟨σ2, K2, a2, m2, τ2, L2, Q2, p1, p2, p3, p4, p5, p6, p7, p8, p9, p10, p11, p12, p13, p14⟩ | ⟨σ2, a2, τ2, p1, p2, p3, p4, p5, p6⟩
      · simp only [List.map_nil, List.append_nil] at p7 p9
        rw [nI_0] at p1
        rw [p1, Option.bind_some, p2]
        have hU : ∀ u, u ∈ Q2 ++ P → u = 38 ∨ (u = 124 ∧ (124 : Int32) ≠ 38) := by
          intro u hu
          rcases List.mem_append.mp hu with h | h
          · rcases p6 with rfl | rfl
            · cases h
            · exact Or.inl (List.mem_singleton.mp h)
          · rcases hP' with rfl | rfl
            · cases h
            · exact Or.inr ⟨List.mem_singleton.mp h, by decide⟩
        have hBB : B = [] ∨ (∃ B', B = 40 :: B') ∨ ((∃ B', B = 124 :: B') ∧ (124 : Int32) = 38) := hB.elim Or.inl (fun q => Or.inr (Or.inl q))
        obtain ⟨τ3, e3, g1, g2⟩ := m_settle hBB hU (by rw [List.append_assoc]; exact p11)
        have hM3 := g2.mt p10
        rw [List.map_append, ← List.append_assoc, p7] at g1
        have hr := p9.r
        -- the class, with its or
        obtain ⟨σ3, f1, f2, f3⟩ : ∃ σ3, ((if nI t ≤ 0 then some σ2 else (if tgb BX (vH σ2 84) 1 = true then ((f_R_step (vH σ2 84) (-3) σ2).bind fun q26 => some q26) else none)) : Option St) = some σ3 ∧ XL r (L ++ K1 ++ K2 ++ P.map wt) σ3 ∧ FSt r σ2 σ3 := by
          rcases hP with ⟨rfl, rfl⟩ | ⟨ht, rfl⟩
          · exact ⟨σ2, by rw [if_pos (by decide)], by simpa using p9, ⟨fun _ _ _ => rfl, fun _ _ => rfl, fun _ => rfl, fun _ => rfl⟩⟩
          · obtain ⟨σ3, s1, s2, s3⟩ := x_step 2 p9 (by have := g1.ti; simp at this ⊢; omega)
            rw [xe_2] at s1
            refine ⟨σ3, ?_, s2, s3⟩
            rw [if_neg (by rw [← nI_0, nIle (by omega) (by decide)]; omega), p9.2.1, if_pos (tgb_of p9.1), s1, Option.bind_some]
        have hX3 := f3.xt hr p8
        have dK : ∀ d, d + 2 * (4 - o) ≤ 27 → dep (K1 ++ K2 ++ P.map wt) (d + P.length) = some (d + 1) := by
          intro d hd
          rw [dep_app, dep_app]
          rcases hP' with rfl | rfl
          · rw [List.length_nil, Nat.add_zero, q11 d (by omega), Option.bind_some, p14 d (by omega), Option.bind_some]
            rfl
          · rw [List.length_singleton, q11 (d + 1) (by omega), Option.bind_some, p14 (d + 1) (by omega), Option.bind_some]
            simp [dep, dep1, wt]
        show (∃ σ' K a' m' τ' τ'', (((if nI t ≤ 0 then some σ2 else (if tgb BX (vH σ2 84) 1 = true then ((f_R_step (vH σ2 84) (-3) σ2).bind fun q26 => some q26) else none)) : Option St).bind fun q20 => ((f_E_skips 84 124 q20).bind fun q29 => (if q29.1 = false then some (Sum.inr (true, q29.2)) else (f_E_either_l2 ff n 84 (nI o) (nI t + 1) q29.2)))) = some (Sum.inr (true, σ')) ∧ _) ∨ (∃ σ' a' τ', (((if nI t ≤ 0 then some σ2 else (if tgb BX (vH σ2 84) 1 = true then ((f_R_step (vH σ2 84) (-3) σ2).bind fun q26 => some q26) else none)) : Option St).bind fun q20 => ((f_E_skips 84 124 q20).bind fun q29 => (if q29.1 = false then some (Sum.inr (true, q29.2)) else (f_E_either_l2 ff n 84 (nI o) (nI t + 1) q29.2)))) = some (Sum.inr (false, σ')) ∧ _)
        rw [f1, Option.bind_some, x_skips hX3]
        by_cases c : sg T s a2 = 124
        · have has := sg_lt c (by decide)
          obtain ⟨m2, rfl, hm2⟩ := m_lp (x := 0) (w := 0) p10 p4
          rw [if_pos c, Option.bind_some, if_neg (show ¬ true = false by decide), f_M_takesE_l22, m_peek p10, Option.bind_some, if_pos rfl, if_neg p5, c, if_pos rfl, e3, Option.bind_some]
          have ho1 : opn (124 :: B) = opn B := by simp [opn]
          have hML4 := psh_ml (v := 124) g1 (by decide) ho1 (by have := hX3.1; omega)
          have hM4 : MT T s (a2 + 1) (psh τ3 B.length a2 124) := psh_mt hM3 has
          have eM : (if ok (vI τ3 0 24) 101 = true then (st (sJ τ3 15 (upd (vJ τ3 15) (nx (vI τ3 0 24)) 124)) fun s15 => (st (sI s15 0 24 ((vI s15 0 24) + 1)) fun s17 => (st (sI s17 0 13 ((vI s17 0 13) + 1)) fun s19 => (f_M_takesE_l22 m2 0 (nI x) 1 s19)))) else none) = f_M_takesE_l22 m2 0 (nI x) 1 (psh τ3 B.length a2 124) := psh_eq (v := 124) g1.ti.1 hM3.2.2.1 (by have := g1.ti; omega) (fun s19 => f_M_takesE_l22 m2 0 (nI x) 1 s19)
          rw [eM, nI_1]
          rcases ih n (t + 1) (a2 + 1) m2 [124] (L ++ K1 ++ K2 ++ P.map wt) _ _ (by omega) (by omega) (by omega) (Or.inr ⟨by omega, rfl⟩) (hX3.to (a' := a2 + 1) (by omega)) f2.at hM4 hML4 hm2 with ⟨σ5, K5, a5, m5, τ5, τ6, w1, w2, w3, w4, w5, w6, w7, w8, w9, w10, w11, w12, w13, w14, w15⟩ | ⟨σ5, a5, τ5, w1, w2, w3, w4, w5, w6⟩
          · refine Or.inl ⟨σ5, K1 ++ K2 ++ P.map wt ++ K5, a5, m5, τ5, τ6, w1, w2, by omega, w4, w5, w6, w7, w8, by simpa [List.append_assoc] using w9, w10, w11, by simpa [List.append_assoc] using w12, (((q9.tr p12).tr f3.fe).tr FE.at).tr w13, (((q10.tr p13).tr g2.gm).tr psh_gm).tr w14, fun d hd => ?_⟩
            rw [dep_app, dK d hd, Option.bind_some]
            exact w15 d hd
          · exact Or.inr ⟨σ5, a5, τ5, w1, w2, w3, w4, (((q9.tr p12).tr f3.fe).tr FE.at).tr w5, (((q10.tr p13).tr g2.gm).tr psh_gm).tr w6⟩
        · rw [if_neg c, Option.bind_some, if_pos rfl]
          exact Or.inl ⟨σ3, K1 ++ K2 ++ P.map wt, a2, m2, τ2, τ3, rfl, rfl, by omega, p4, e3, p5, c, hX3, by simpa [List.append_assoc] using f2, p10, hM3, by simpa [List.append_assoc] using g1, (q9.tr p12).tr f3.fe, (q10.tr p13).tr g2.gm, dK⟩
      · rw [nI_0] at p1
        rw [p1, Option.bind_some, p2]
        exact Or.inr ⟨σ2, a2, τ2, rfl, rfl, p3, p4, q9.tr p5, q10.tr p6⟩
    · rw [q1, Option.bind_some, if_pos rfl]
      exact Or.inr ⟨σ', a', τ', rfl, q2, q3, q4, q5, q6⟩
theorem ei_ok {ff : Nat → Int32 → St → Option (Bool × St)} {o : Nat} (hf : FaS ff o) : EiS (f_E_either ff) o := by
  intro T s r j x a m L B σ τ hx hX hXL hM hML hop hB hm
  have ha := hML.ti
  unfold f_E_either
  rcases ors hf hx hB hop 101 FU 0 a m [] L σ τ (by have := hX.1; omega) (by unfold FU; omega) (by omega) (Or.inl ⟨rfl, rfl⟩) hX hXL hM hML hm with ⟨σ', K, a', m', τ', τ'', w1, w2, w3, w4, w5, w6, w7, w8, w9, w10, w11, w12, w13, w14, w15⟩ | ⟨σ', a', τ', w1, w2, w3, w4, w5, w6⟩
  · rw [nI_0] at w1
    rw [w1, Option.bind_some]
    exact Or.inl ⟨σ', K, a', m', τ', τ'', rfl, w2, w3, w4, w5, w6, w7, w8, w9, w10, w11, w12, w13, w14, w15⟩
  · rw [nI_0] at w1
    rw [w1, Option.bind_some]
    exact Or.inr ⟨σ', a', τ', rfl, w2, w3, w4, w5, w6⟩
theorem ef_ok : ∀ n, (∀ o, o ≤ 4 → 2 * (4 - o) + 2 ≤ n → EiS (F_EF n).1 o) ∧ (∀ o, o ≤ 4 → 2 * (4 - o) + 1 ≤ n → FaS (F_EF n).2 o) := by
  intro n
  induction n with
  | zero => exact ⟨fun o _ h => absurd h (by omega), fun o _ h => absurd h (by omega)⟩
  | succ n ih => exact ⟨fun o h4 h => ei_ok (ih.2 o h4 (by omega)), fun o h4 h => fac_ok h4 (fun h3 => ih.1 (o + 1) (by omega) (by omega)) (fun h3 => ih.2 (o + 1) (by omega) (by omega))⟩

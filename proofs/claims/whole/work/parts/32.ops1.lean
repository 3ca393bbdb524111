/-! ===== PURE: calls on takers, the tin, takings, days ===== -/
theorem in_X (p a b : Int32) : f_X_inside p a b = f_M_in 0 p a b := rfl
theorem neg_f {b : Bool} (h : ¬ b = false) : b = true := by cases b; exact absurd rfl h; rfl
theorem op_told {N : Nat} {σ τ : St} {t d s : Nat} {CL : List Cl} {CLs : List (List Cl)} (h : RR N σ τ t d CL CLs s) (w : Int32) : ∃ r, f_X_told 0 w σ = some r ∧ f_M_told 0 w τ = some r := by
  have hK := h.1.1
  obtain ⟨l, -, l1, l2⟩ := KR_least hK
  obtain ⟨f, -, f1, f2⟩ := KR_full hK
  obtain ⟨⟨ht, -, a3, a4, a5, a6⟩, ⟨g, -, g1, g2⟩, hJ, -⟩ := hK
  have e : SM (vJ σ (49 + 5)) t = SM (vJ τ 5) t := SM_congr (fun i hi => (hJ i (by omega)).2.2.2.2.1)
  unfold f_X_told f_M_told
  rw [l1, l2, f1, f2, a3, a5, a6, g1, g2, x_sum ht, m_sum0 ht a4, e]
  exact ex_ite (fun _ => ⟨_, rfl, rfl⟩) (fun _ => ex_ite (fun _ => ⟨_, rfl, rfl⟩) (fun _ => ex_ite (fun _ => ⟨_, rfl, rfl⟩) (fun _ => ex_ite (fun _ => ⟨_, rfl, rfl⟩) (fun _ => ex_ite (fun _ => ⟨_, rfl, rfl⟩) (fun _ => ⟨_, rfl, rfl⟩)))))
theorem RR.tk {N : Nat} {σ τ : St} {t d s : Nat} {CL : List Cl} {CLs : List (List Cl)} (h : RR N σ τ t d CL CLs s) (p : Int32) : f_X_isTaker 0 p σ = f_M_isTaker 0 p τ := tk_eq (h.1.1.1.2.2.1.trans h.1.1.1.2.2.2.1.symm) p
theorem RR.tt {N : Nat} {σ τ : St} {t d s : Nat} {CL : List Cl} {CLs : List (List Cl)} (h : RR N σ τ t d CL CLs s) {p : Int32} (hp : ¬ f_M_isTaker 0 p τ = false) : ∃ i, i < t ∧ i < 6 ∧ p = nI i := by
  obtain ⟨i, h1, h2⟩ := tk_t h.1.1.1.2.2.2.1 h.1.1.1.1 (neg_f hp)
  have := h.1.1.1.1
  exact ⟨i, h1, by omega, h2⟩
theorem RR.sc {N : Nat} {σ τ : St} {t d s : Nat} {CL : List Cl} {CLs : List (List Cl)} {f g : Nat → Int32} (h : RR N σ τ t d CL CLs s) : RR N (sJ σ 57 f) (sJ τ 17 g) t d CL CLs s :=
  h.keep ⟨fun _ _ _ _ => rfl, fun k q1 _ _ => by rw [vJ_sJ, if_neg (by omega)], fun _ => rfl, fun _ _ _ => rfl⟩ ⟨fun _ _ => rfl, rfl, rfl, rfl, rfl⟩ ⟨fun _ _ => rfl, fun k q => by simp at q; rw [vJ_sJ, if_neg (by omega)], fun _ _ => rfl⟩ rfl rfl ⟨rfl, rfl, rfl, rfl⟩ (fun _ _ => ⟨rfl, rfl, rfl⟩)
theorem op_of {N : Nat} {σ τ : St} {t d s : Nat} {CL : List Cl} {CLs : List (List Cl)} (h : RR N σ τ t d CL CLs s) (p w : Int32) : Sm N (f_X_of 0 p w σ) (f_M_of 0 p w τ) := by
  unfold f_X_of f_M_of
  rw [h.tk]
  refine sm_ite (fun _ => sm_ret h _) (fun hp => ?_)
  obtain ⟨i, hi, hi6, rfl⟩ := h.tt hp
  obtain ⟨j1, j2, j3, j4, j5, j6⟩ := h.1.1.2.2.1 i hi6
  obtain ⟨f1, e1⟩ := x_wants h.1.1 (by decide) hi6
  obtain ⟨f2, e2⟩ := x_pay h.1.1 (by decide) hi6
  obtain ⟨f3, e3⟩ := m_wants h.1.1 hi6
  obtain ⟨f4, e4⟩ := m_sumOf (KR_MF h.1.1 hi6) h.1.1.2.2.2.2.2.2.1 (w := 3) (Or.inr rfl)
  rw [show nI 3 = (3 : Int32) by decide] at e4
  have hok : ok (nI i) 6 = true := ok_nI hi6 (by decide)
  simp only [hok, if_true, nx_nI (show i < 2 ^ 31 by omega), e1, e2, e3, e4, Option.bind_some, j1, j2, j3, j4, j5, j6]
  exact sm_ite (fun _ => sm_ret h _) (fun _ => sm_ite (fun _ => sm_ret h _) (fun _ => sm_ite (fun _ => sm_ret h _) (fun _ => sm_ite (fun _ => sm_ret h _) (fun _ => sm_ite (fun _ => sm_ret h _) (fun _ => sm_ite (fun _ => sm_ret h _) (fun _ => sm_ite (fun _ => sm_ret h.sc _) (fun _ => sm_ite (fun _ => sm_ret h.sc _) (fun _ => sm_ret h _))))))))
/-- when the kitchen alone changes -/
theorem RR.now {N M : Nat} {σ σ' τ τ' : St} {t d s t' d' : Nat} {CL : List Cl} {CLs : List (List Cl)} (h : RR N σ τ t d CL CLs s) (h1 : KR σ' 49 τ' t' d' CL) (hd : d' ≤ 9999) (hk : ∀ i, i < t' → ∃ k, k ≤ 6 ∧ vJ τ' 1 i = nI k) (hx0 : vI σ' 0 9 = vI σ 0 9 ∧ vI σ' 0 6 = vI σ 0 6) (hx : SX 1 49 σ σ') (hx2 : SX 58 67 σ σ') (hx3 : SX 76 104 σ σ') (hH : vH σ' 49 = vH σ 49) (hm : ∀ f, f ∉ [0, 1, 2, 30, 13, 14, 23, 24, 25, 33, 34] → vI τ' 0 f = vI τ 0 f) (hJ : ∀ k, k ∉ [1, 2, 3, 4, 5, 6, 7, 15, 17, 18, 19, 20, 21, 22] → vJ τ' k = vJ τ k) (hL : vL τ' 39 = vL τ 39) (hF : FB M τ') : RR M σ' τ' t' d' CL CLs s := by
  obtain ⟨⟨k1, k2, k3, ⟨l1, l2, l3, l4⟩, k5⟩, ⟨r2, r3, r4, r5, r6, r7, r8⟩, -⟩ := h
  have sx : ∀ {a b : Nat}, 76 ≤ a → b ≤ 104 → SX a b σ σ' := fun ha hb k q1 q2 => hx3 k (by omega) (by omega)
  refine ⟨⟨h1, hd, hk, ⟨?_, ?_, ?_, ?_⟩, ?_⟩, ⟨r2.c hx0.1 hx (hm 10 (by decide)) (fun k q1 q2 => hJ k (by simp; omega)), r3.c ((hx3 84 (by decide) (by decide)).1 1) (hx3 85 (by decide) (by decide)).2.1 (hm 12 (by decide)) (hJ 8 (by decide)), r4.c (sx (by decide) (by decide)) (hm 40 (by decide)) (hm 43 (by decide)) ?_ ?_ ?_, r5.c hx0.2 hx2 (sx (by decide) (by decide)) (fun f q1 q2 => hm f (by simp; omega)) (fun k q1 q2 => hJ k (by simp; omega)), r6.c (sx (by decide) (by decide)) (hJ 37 (by decide)) (hJ 38 (by decide)) hL, r7.c ((hx3 89 (by decide) (by decide)).1 1) (hx3 90 (by decide) (by decide)).2.1 (hm 62 (by decide)) (hJ 36 (by decide)), r8.c (hJ 16 (by decide))⟩, hF⟩
  · rw [hm 27 (by decide)]; exact l1
  · rw [hm 28 (by decide)]; exact l2
  · rw [hm 31 (by decide)]; exact l3
  · rw [hm 32 (by decide)]; exact l4
  · rw [hH, hm 11 (by decide)]; exact k5
  · exact hJ 23 (by decide)
  · exact hJ 24 (by decide)
  · exact hJ 25 (by decide)
theorem op_fill {N : Nat} {σ τ : St} {t d s : Nat} {CL : List Cl} {CLs : List (List Cl)} (h : RR N σ τ t d CL CLs s) (p : Int32) : Sm N (f_X_fill 0 p σ) (f_M_fill 0 p τ) := by
  unfold f_X_fill f_M_fill
  rw [in_X]
  refine sm_ite (fun _ => sm_ret h _) (fun hp => ?_)
  obtain ⟨g, -, hg, rfl⟩ := in_t (neg_f hp) (a := 0) (b := 990) (by decide) (by decide) (by decide) (by decide)
  have hK := h.1.1
  obtain ⟨⟨ht, hd, a3, a4, a5, a6⟩, ⟨g', -, g1, g2⟩, n3, n4, n5, -⟩ := h.1.1
  refine ⟨nI g', sI σ 49 8 (nI g), sI τ 0 1 (nI g), by simp only [st, g1], by simp only [st, g2], t, d, CL, CLs, s, h.now (hK.re (SX.rf.i (by decide)) rfl rfl rfl rfl rfl rfl (fun _ _ _ => rfl) ⟨ht, hd, a3, a4, a5, a6⟩ ⟨g, hg, rfl, rfl⟩ n3 n4 n5) h.1.2.1 h.1.2.2.1 ⟨rfl, rfl⟩ (SX.rf.i (by decide)) (SX.rf.i (by decide)) (SX.rf.i (by decide)) rfl (fun f q => ?_) (fun _ _ => rfl) rfl h.2.2⟩
  simp at q
  rw [vI_sI, if_pos rfl, if_neg (by omega)]
theorem op_portion {N : Nat} {σ τ : St} {t d s : Nat} {CL : List Cl} {CLs : List (List Cl)} (h : RR N σ τ t d CL CLs s) (p w : Int32) : Sm N (f_X_portion 0 p w σ) (f_M_portion 0 p w τ) := by
  unfold f_X_portion f_M_portion
  rw [h.tk, in_X]
  refine sm_ite (fun _ => sm_ret h _) (fun hp => sm_ite (fun _ => sm_ret h _) (fun hq => ?_))
  obtain ⟨i, hi, hi6, rfl⟩ := h.tt hp
  obtain ⟨n, hn1, hn, rfl⟩ := in_t (neg_f hq) (a := 1) (b := 60) (by decide) (by decide) (by decide) (by decide)
  have hok : ok (nI i) 6 = true := ok_nI hi6 (by decide)
  have hK := h.1.1
  obtain ⟨n1, n2, n3, n4, n5, -⟩ := h.1.1
  simp only [hok, if_true, nx_nI (show i < 2 ^ 31 by omega), st]
  rw [(n3 i hi6).2.2.1]
  refine ⟨vJ τ 3 i, _, _, rfl, rfl, t, d, CL, CLs, s, h.now (hK.re (SX.rf.j (by decide)) rfl rfl rfl rfl rfl rfl (fun k q1 q2 => ?_) n1 n2 (fun j hj => ?_) n4 (fun j hj => ?_)) h.1.2.1 h.1.2.2.1 ⟨rfl, rfl⟩ (SX.rf.j (by decide)) (SX.rf.j (by decide)) (SX.rf.j (by decide)) rfl (fun _ _ => rfl) (fun k q => ?_) rfl h.2.2⟩
  · rw [vJ_sJ, if_neg (by omega)]
  · obtain ⟨v1, v2, v3, v4, v5, v6⟩ := n3 j hj
    refine ⟨v1, v2, ?_, v4, v5, v6⟩
    rw [vJ_sJ, vJ_sJ, if_pos rfl, if_pos rfl]
    unfold upd
    rw [v3]
  · rw [vJ_sJ, if_pos rfl]
    unfold upd
    split
    · exact ⟨n, hn1, hn, rfl⟩
    · exact n5 j hj
  · simp at q
    rw [vJ_sJ, if_neg (by omega)]
theorem op_row {N : Nat} {σ τ : St} {t d s : Nat} {CL : List Cl} {CLs : List (List Cl)} (h : RR N σ τ t d CL CLs s) (p w v : Int32) : Sm N (f_X_row 0 p w v σ) (f_M_row 0 p w v τ) := by
  unfold f_X_row f_M_row
  rw [h.tk, in_X, in_X]
  refine sm_ite (fun _ => sm_ret h _) (fun hp => sm_ite (fun _ => sm_ret h _) (fun hq => sm_ite (fun _ => sm_ret h _) (fun hv => ?_)))
  obtain ⟨i, hi, hi6, rfl⟩ := h.tt hp
  obtain ⟨n, -, hn, rfl⟩ := in_t (neg_f hq) (a := 0) (b := 3) (by decide) (by decide) (by decide) (by decide)
  have hok : ok (nI i) 6 = true := ok_nI hi6 (by decide)
  have e1 : nI i * 4 + nI n = nI (4 * i + n) := by rw [show (4 : Int32) = nI 4 by decide, pk_mul, nI_add, Nat.mul_comm]
  have e2 : 4 * nI i + nI n = nI (4 * i + n) := by rw [show (4 : Int32) = nI 4 by decide, pk_mul, nI_add]
  have hok2 : ok (nI (4 * i + n)) 24 = true := ok_nI (by omega) (by decide)
  have hK := h.1.1
  obtain ⟨n1, n2, n3, n4, n5, -⟩ := h.1.1
  simp only [hok, if_true, nx_nI (show i < 2 ^ 31 by omega), e1, e2, hok2, nx_nI (show 4 * i + n < 2 ^ 31 by omega), st, (n3 i hi6).1, n4 (4 * i + n) (by omega)]
  refine sm_ite (fun _ => ?_) (fun _ => sm_ret h _)
  refine ⟨vJ τ 7 (4 * i + n), _, _, rfl, rfl, t, d, CL, CLs, s, h.now (hK.re (SX.rf.j (by decide)) rfl rfl rfl rfl rfl rfl (fun k q1 q2 => ?_) n1 n2 n3 (fun j hj => ?_) n5) h.1.2.1 h.1.2.2.1 ⟨rfl, rfl⟩ (SX.rf.j (by decide)) (SX.rf.j (by decide)) (SX.rf.j (by decide)) rfl (fun _ _ => rfl) (fun k q => ?_) rfl h.2.2⟩
  · rw [vJ_sJ, if_neg (by omega)]
  · rw [vJ_sJ, vJ_sJ, if_pos rfl, if_pos rfl]
    unfold upd
    rw [n4 j hj]
  · simp at q
    rw [vJ_sJ, if_neg (by omega)]
theorem FB.fs {N K : Nat} {τ τ' : St} (h : FB N τ) (hs : FS τ τ' K) (h30 : vJ τ' 30 = vJ τ 30) : FB (N + K) τ' := by
  obtain ⟨ks, e, l⟩ := hs
  refine ⟨fun i hi => ?_, fun i hi => ?_⟩
  · obtain ⟨k, q1, q2⟩ := h.1 i hi
    have := l i hi
    exact ⟨k + ks i, by omega, by rw [e i hi, q2, nI_add]⟩
  · obtain ⟨k, q1, q2⟩ := h.2 i hi
    exact ⟨k, by omega, by rw [h30]; exact q2⟩
theorem RR.gone {N K : Nat} {σ σ' τ τ' : St} {t d s d' : Nat} {CL : List Cl} {CLs : List (List Cl)} (h : RR N σ τ t d CL CLs s) (h1 : KR σ' 49 τ' t d' CL) (hd : d' ≤ 9999) (hx : FXd 49 σ σ') (hm : FMd τ τ') (hs : FS τ τ' K) : RR (N + K) σ' τ' t d' CL CLs s := by
  have sx : ∀ {a b : Nat}, b ≤ 49 ∨ 58 ≤ a → SX a b σ σ' := fun hab k q1 q2 => ⟨fun f => hx.1 k f (Or.inl (by omega)), hx.2.1 k (by omega) (by omega) (by omega) (by omega), hx.2.2.1 k, hx.2.2.2 k⟩
  refine h.now h1 hd (fun i hi => by rw [hm.2.1 1 (by decide) (by decide) (by decide) (by decide)]; exact h.1.2.2.1 i hi) ⟨hx.1 0 9 (Or.inl (by decide)), hx.1 0 6 (Or.inl (by decide))⟩ (sx (by decide)) (sx (by decide)) (sx (by decide)) (hx.2.2.2 49) (fun f q => ?_) (fun k q => ?_) (hm.2.2 39) (h.2.2.fs hs (hm.2.1 30 (by decide) (by decide) (by decide) (by decide)))
  · simp at q
    exact hm.1 f (by omega) (by omega) (by omega)
  · simp at q
    exact hm.2.1 k (by omega) (by omega) (by omega) (by omega)
theorem op_takes {N : Nat} {σ τ : St} {t d s : Nat} {CL : List Cl} {CLs : List (List Cl)} (h : RR N σ τ t d CL CLs s) (p : Int32) : Sm (N + 14) (f_X_takes 0 p σ) (f_M_takes 0 p τ) := by
  unfold f_X_takes f_M_takes
  rw [h.tk]
  refine sm_ite (fun _ => (sm_ret h _).le (by omega)) (fun hp => ?_)
  obtain ⟨i, hi, hi6, rfl⟩ := h.tt hp
  obtain ⟨v, k, σ1, τ1, e1, e2, K1, A1, M1, -, -, hk, I1⟩ := tak h.1.1 (by decide) hi
  rw [e1, e2, Option.bind_some, Option.bind_some]
  exact ⟨_, σ1, τ1, rfl, rfl, t, d, CL, CLs, s, h.gone K1 h.1.2.1 A1.d M1.d (I1.fs (by omega))⟩
theorem op_day {N : Nat} {σ τ : St} {t d s : Nat} {CL : List Cl} {CLs : List (List Cl)} (h : RR N σ τ t d CL CLs s) : Sm (N + 14) (f_X_day 0 σ) (f_M_day 0 τ) := by
  have hd := h.1.2.1
  obtain ⟨-, -, -, a4, a5, a6⟩ := h.1.1.1
  unfold f_X_day f_M_day
  rw [a5, a6]
  by_cases h9 : d = 9999
  · rw [if_pos (by rw [h9]; decide), if_pos (by rw [h9]; decide)]
    exact (sm_ret h _).le (by omega)
  · rw [if_neg (by rw [show (9999 : Int32) = nI 9999 by decide, nIle (by decide) (by omega)]; omega), if_neg (by rw [show (9999 : Int32) = nI 9999 by decide, nIeq (by omega) (by decide)]; exact h9)]
    obtain ⟨l1, l2, l3, l4⟩ := h.1.2.2.2.1
    obtain ⟨m, σ1, τ1, q1, q2, q3, q4, q5, q6, q7, q8⟩ := go2 (by decide) h.1.1 (N := 1) (x2 := -1) (x3 := -1) (Or.inl ⟨rfl, l4⟩) (Or.inl ⟨rfl, l3⟩) (by decide) (by omega)
    rw [show nI 1 = (1 : Int32) by decide] at q1 q2
    rw [goDays_1] at q2
    rw [q1, m_sum0 h.1.1.1.1 a4, Option.bind_some, Option.bind_some, q2, Option.bind_some, m_sum0 h.1.1.1.1 q5.1.2.2.2.1, Option.bind_some, q4, sub_nI]
    exact ⟨_, σ1, τ1, rfl, rfl, t, d + 1, CL, CLs, s, h.gone q5 (by omega) q6 q7 q8⟩

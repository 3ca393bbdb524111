/-! ===== PURE: calls on the text, the notes; counts ===== -/
theorem byte_n {b : Nat} (h : b < 128) : vp_nar .byte (nI b).toInt8.toInt32 = nI b := by
  have : ∀ b, b < 128 → vp_nar .byte (nI b).toInt8.toInt32 = nI b := by decide +kernel
  exact this b h
theorem op_feed {N : Nat} {σ τ : St} {t d s : Nat} {CL : List Cl} {CLs : List (List Cl)} (h : RR N σ τ t d CL CLs s) (p : Int32) : Sm N (f_X_feed 0 p σ) (f_M_feed 0 p τ) := by
  unfold f_X_feed f_M_feed
  rw [in_X]
  refine sm_ite (fun _ => sm_ret h _) (fun hp => ?_)
  obtain ⟨b, -, hb, rfl⟩ := in_t (neg_f hp) (a := 0) (b := 127) (by decide) (by decide) (by decide) (by decide)
  obtain ⟨h1, ⟨r2, ⟨s1, s2, s3, s4⟩, r4, r5, r6, r7, r8⟩, h3⟩ := h
  rw [s2, s3]
  by_cases hs : s = 100
  · subst hs
    rw [if_neg (by decide), if_pos (by decide)]
    exact sm_ret ⟨h1, ⟨r2, ⟨s1, s2, s3, s4⟩, r4, r5, r6, r7, r8⟩, h3⟩ _
  · rw [if_pos (by rw [show (100 : Int32) = nI 100 by decide, nIlt (by omega) (by decide)]; omega), if_pos (ok_nI (by omega) (by decide)), if_neg (by rw [show (100 : Int32) = nI 100 by decide, nIeq (by omega) (by decide)]; exact hs), if_pos (ok_nI (by omega) (by decide)), nx_nI (by omega), byte_n (by omega)]
    simp only [st, vI_sI, vI_sJ, s2, s3, nI_1, if_true]
    refine ⟨nI (s + 1), _, _, rfl, rfl, t, d, CL, CLs, s + 1, ?_, ⟨r2.c rfl ((SX.rf.j (by decide)).i (by decide)) rfl (fun k q1 q2 => by rw [vJ_sI, vJ_sJ, if_neg (by omega)]), ⟨by omega, rfl, rfl, fun i hi => ?_⟩, r4.c ((SX.rf.j (by decide)).i (by decide)) rfl rfl rfl rfl rfl, r5.c rfl ((SX.rf.j (by decide)).i (by decide)) ((SX.rf.j (by decide)).i (by decide)) (fun f q1 q2 => by rw [vI_sI, if_pos rfl, if_neg (by omega), vI_sJ]) (fun k q1 q2 => by rw [vJ_sI, vJ_sJ, if_neg (by omega)]), r6.c ((SX.rf.j (by decide)).i (by decide)) rfl rfl rfl, r7.c rfl rfl rfl rfl, r8.c rfl⟩, h3⟩
    · obtain ⟨k1, k2, k3, k4, k5⟩ := h1
      have k1' := k1
      obtain ⟨n1, n2, n3, n4, n5, -⟩ := k1'
      exact ⟨k1.re ((SX.rf.j (by decide)).i (by decide)) rfl rfl rfl rfl rfl rfl (fun k q1 q2 => by rw [vJ_sI, vJ_sJ, if_neg (by omega)]) n1 n2 n3 n4 n5, k2, k3, k4, k5⟩
    · simp only [vJ_sI, vJ_sJ, if_true]
      unfold upd
      by_cases hi2 : i = s
      · rw [if_pos hi2, if_pos hi2]; exact ⟨b, by omega, rfl, rfl⟩
      · rw [if_neg hi2, if_neg hi2]; exact s4 i (by omega)
/-- when the notes alone change -/
theorem RR.note {N : Nat} {σ σ' τ τ' : St} {t d s : Nat} {CL : List Cl} {CLs : List (List Cl)} (h : RR N σ τ t d CL CLs s) (hx0 : ∀ f, vI σ' 0 f = vI σ 0 f) (hx : SX 1 76 σ σ') (hx3 : SX 80 104 σ σ') (hm : ∀ f, f ≠ 40 → f ≠ 43 → vI τ' 0 f = vI τ 0 f) (hJ : ∀ k, k ≠ 23 → k ≠ 24 → k ≠ 25 → vJ τ' k = vJ τ k) (hL : vL τ' 39 = vL τ 39) (h4 : R4 σ' τ') : RR N σ' τ' t d CL CLs s := by
  obtain ⟨⟨k1, k2, k3, ⟨l1, l2, l3, l4⟩, k5⟩, ⟨r2, r3, -, r5, r6, r7, r8⟩, f1, f2⟩ := h
  have sx : ∀ {a b : Nat}, 1 ≤ a → b ≤ 76 → SX a b σ σ' := fun ha hb k q1 q2 => hx k (by omega) (by omega)
  have sy : ∀ {a b : Nat}, 80 ≤ a → b ≤ 104 → SX a b σ σ' := fun ha hb k q1 q2 => hx3 k (by omega) (by omega)
  have i49 : ∀ f, vI σ' 49 f = vI σ 49 f := (hx 49 (by decide) (by decide)).1
  have jj : ∀ k, 1 ≤ k → k < 76 → vJ σ' k = vJ σ k := fun k q1 q2 => (hx k q1 q2).2.1
  have k1' := k1
  obtain ⟨⟨n1, n1b, n1c, n1d, n1e, n1f⟩, ⟨g, g0, g1, g2⟩, n3, n4, n5, -⟩ := k1'
  refine ⟨⟨k1.re (sx (by decide) (by decide)) (i49 _) (i49 _) (hx 49 (by decide) (by decide)).2.2.2 (hm 27 (by decide) (by decide)) (hm 28 (by decide) (by decide)) (hm 11 (by decide) (by decide)) (fun k q1 q2 => hJ k (by omega) (by omega) (by omega)) ⟨n1, n1b, by rw [i49]; exact n1c, by rw [hm 0 (by decide) (by decide)]; exact n1d, by rw [i49]; exact n1e, by rw [hm 2 (by decide) (by decide)]; exact n1f⟩ ⟨g, g0, by rw [i49]; exact g1, by rw [hm 1 (by decide) (by decide)]; exact g2⟩ (fun i hi => ?_) (fun i hi => ?_) (fun i hi => ?_), k2, fun i hi => ?_, ⟨?_, ?_, ?_, ?_⟩, ?_⟩, ⟨r2.c (hx0 9) (sx (by decide) (by decide)) (hm 10 (by decide) (by decide)) (fun k q1 q2 => hJ k (by omega) (by omega) (by omega)), r3.c ((hx3 84 (by decide) (by decide)).1 1) (hx3 85 (by decide) (by decide)).2.1 (hm 12 (by decide) (by decide)) (hJ 8 (by decide) (by decide) (by decide)), h4, r5.c (hx0 6) (sx (by decide) (by decide)) (sy (by decide) (by decide)) (fun f q1 q2 => hm f (by omega) (by omega)) (fun k q1 q2 => hJ k (by omega) (by omega) (by omega)), r6.c (sy (by decide) (by decide)) (hJ 37 (by decide) (by decide) (by decide)) (hJ 38 (by decide) (by decide) (by decide)) hL, r7.c ((hx3 89 (by decide) (by decide)).1 1) (hx3 90 (by decide) (by decide)).2.1 (hm 62 (by decide) (by decide)) (hJ 36 (by decide) (by decide) (by decide)), r8.c (hJ 16 (by decide) (by decide) (by decide))⟩, ?_, ?_⟩
  · rw [jj 50 (by decide) (by decide), jj 51 (by decide) (by decide), jj 52 (by decide) (by decide), jj 53 (by decide) (by decide), jj 54 (by decide) (by decide), jj 55 (by decide) (by decide), hJ 1 (by decide) (by decide) (by decide), hJ 2 (by decide) (by decide) (by decide), hJ 3 (by decide) (by decide) (by decide), hJ 4 (by decide) (by decide) (by decide), hJ 5 (by decide) (by decide) (by decide), hJ 6 (by decide) (by decide) (by decide)]
    exact n3 i hi
  · rw [jj 56 (by decide) (by decide), hJ 7 (by decide) (by decide) (by decide)]; exact n4 i hi
  · rw [hJ 3 (by decide) (by decide) (by decide)]; exact n5 i hi
  · rw [hJ 1 (by decide) (by decide) (by decide)]; exact k3 i hi
  · rw [hm 27 (by decide) (by decide)]; exact l1
  · rw [hm 28 (by decide) (by decide)]; exact l2
  · rw [hm 31 (by decide) (by decide)]; exact l3
  · rw [hm 32 (by decide) (by decide)]; exact l4
  · rw [(hx 49 (by decide) (by decide)).2.2.2, hm 11 (by decide) (by decide)]; exact k5
  · rw [hJ 5 (by decide) (by decide) (by decide)]; exact f1
  · rw [hJ 30 (by decide) (by decide) (by decide)]; exact f2
theorem op_see {N : Nat} {σ τ : St} {t d s : Nat} {CL : List Cl} {CLs : List (List Cl)} (h : RR N σ τ t d CL CLs s) (p w : Int32) : Sm N (f_X_see 0 p w σ) (f_M_see 0 p w τ) := by
  unfold f_X_see f_M_see
  rw [in_X, in_X]
  obtain ⟨a, b, a6, b12, x1, m1, x2, m2, j1, j2, g1⟩ := h.2.1.2.2.1
  refine sm_ite (fun _ => ?_) (fun _ => sm_ite (fun _ => sm_ret h _) (fun hp => sm_ite (fun _ => sm_ret h _) (fun hw => ?_)))
  · refine ⟨0, sI σ 76 0 0, sI τ 0 40 0, rfl, rfl, t, d, CL, CLs, s, h.note (fun _ => rfl) (SX.rf.i (by decide)) (SX.rf.i (by decide)) (fun f q1 q2 => by rw [vI_sI, if_pos rfl, if_neg q1]) (fun _ _ _ _ => rfl) rfl ?_⟩
    exact ⟨0, b, by decide, b12, rfl, rfl, x2, m2, j1, j2, fun i hi => absurd hi (Nat.not_lt_zero _)⟩
  · obtain ⟨fo, -, hfo, rfl⟩ := in_t (neg_f hp) (a := 0) (b := 990) (by decide) (by decide) (by decide) (by decide)
    rw [x1, m1]
    by_cases ha : a = 6
    · subst ha
      rw [if_neg (by decide), if_pos (by decide)]
      exact sm_ret h _
    · rw [if_pos (by rw [show (6 : Int32) = nI 6 by decide, nIlt (by omega) (by decide)]; omega), if_pos (ok_nI (by omega) (by decide)), if_neg (by rw [show (6 : Int32) = nI 6 by decide, nIeq (by omega) (by decide)]; exact ha), if_pos (ok_nI (by omega) (by decide)), nx_nI (by omega)]
      simp only [st, vI_sI, vI_sJ, x1, m1, nI_1, if_true, ok_nI (show a < 6 by omega) (show 6 < 2 ^ 31 by decide), nx_nI (show a < 2 ^ 31 by omega)]
      refine ⟨nI (a + 1), _, _, rfl, rfl, t, d, CL, CLs, s, h.note (fun _ => rfl) (((SX.rf.j (by decide)).j (by decide)).i (by decide)) (((SX.rf.j (by decide)).j (by decide)).i (by decide)) (fun f q1 q2 => by rw [vI_sI, if_pos rfl, if_neg q1]; rfl) (fun k q1 q2 q3 => by rw [vJ_sI, vJ_sJ, if_neg q2, vJ_sJ, if_neg q1]) rfl ?_⟩
      refine ⟨a + 1, b, by omega, b12, rfl, rfl, x2, m2, fun i hi => ?_, j2, fun i hi => ?_⟩
      · obtain ⟨w1, w2⟩ := j1 i hi
        show upd (vJ σ 77) a (nI fo) i = upd (vJ τ 23) a (nI fo) i ∧ upd (vJ σ 78) a w i = upd (vJ τ 24) a w i
        unfold upd
        rw [w1, w2]
        exact ⟨rfl, rfl⟩
      · show ∃ g, g ≤ 990 ∧ upd (vJ τ 23) a (nI fo) i = nI g
        unfold upd
        by_cases hia : i = a
        · rw [if_pos hia]; exact ⟨fo, hfo, rfl⟩
        · rw [if_neg hia]; exact g1 i (by omega)
theorem op_book {N : Nat} {σ τ : St} {t d s : Nat} {CL : List Cl} {CLs : List (List Cl)} (h : RR N σ τ t d CL CLs s) (p : Int32) : Sm N (f_X_book 0 p σ) (f_M_book 0 p τ) := by
  unfold f_X_book f_M_book
  rw [in_X]
  obtain ⟨a, b, a6, b12, x1, m1, x2, m2, j1, j2, g1⟩ := h.2.1.2.2.1
  refine sm_ite (fun _ => ?_) (fun _ => sm_ite (fun _ => sm_ret h _) (fun hp => ?_))
  · refine ⟨0, sI σ 76 3 0, sI τ 0 43 0, rfl, rfl, t, d, CL, CLs, s, h.note (fun _ => rfl) (SX.rf.i (by decide)) (SX.rf.i (by decide)) (fun f q1 q2 => by rw [vI_sI, if_pos rfl, if_neg q2]) (fun _ _ _ _ => rfl) rfl ?_⟩
    exact ⟨a, 0, a6, by decide, x1, m1, rfl, rfl, j1, j2, g1⟩
  · rw [x2, m2]
    by_cases hb : b = 12
    · subst hb
      rw [if_neg (by decide), if_pos (by decide)]
      exact sm_ret h _
    · rw [if_pos (by rw [show (12 : Int32) = nI 12 by decide, nIlt (by omega) (by decide)]; omega), if_pos (ok_nI (by omega) (by decide)), if_neg (by rw [show (12 : Int32) = nI 12 by decide, nIeq (by omega) (by decide)]; exact hb), if_pos (ok_nI (by omega) (by decide)), nx_nI (by omega)]
      simp only [st, vI_sI, vI_sJ, x2, m2, nI_1, if_true]
      refine ⟨nI (b + 1), _, _, rfl, rfl, t, d, CL, CLs, s, h.note (fun _ => rfl) ((SX.rf.j (by decide)).i (by decide)) ((SX.rf.j (by decide)).i (by decide)) (fun f q1 q2 => by rw [vI_sI, if_pos rfl, if_neg q2]; rfl) (fun k q1 q2 q3 => by rw [vJ_sI, vJ_sJ, if_neg q3]) rfl ?_⟩
      refine ⟨a, b + 1, a6, by omega, x1, m1, rfl, rfl, j1, fun i hi => ?_, g1⟩
      show upd (vJ σ 79) b p i = upd (vJ τ 25) b p i
      unfold upd
      rw [show vJ σ 79 i = vJ τ 25 i from j2 i hi]
theorem op_count {N : Nat} {σ τ : St} {t d s : Nat} {CL : List Cl} {CLs : List (List Cl)} (h : RR N σ τ t d CL CLs s) (w : Int32) : f_X_count 0 w σ = f_M_count 0 w τ := by
  obtain ⟨⟨⟨⟨-, -, a3, a4, -⟩, -⟩, -⟩, ⟨⟨-, c1, c2, -⟩, ⟨-, s2, s3, -⟩, ⟨a, b, -, -, x1, m1, x2, m2, -⟩, -, -, ⟨r, -, r1, r2, -⟩, -⟩, -⟩ := h
  unfold f_X_count f_M_count
  rw [a3, a4, c1, c2, s2, s3, x1, m1, x2, m2, r1, r2]
theorem op_trace {N : Nat} {σ τ : St} {t d s : Nat} {CL : List Cl} {CLs : List (List Cl)} (h : RR N σ τ t d CL CLs s) (w : Int32) : ∃ r, f_X_trace 0 w σ = some r ∧ f_M_trace 0 w τ = some r := by
  obtain ⟨-, ⟨-, -, -, -, -, ⟨r, r0, r1, r2, r3⟩, -⟩, -⟩ := h
  unfold f_X_trace f_M_trace
  rw [in_X, r1, r2, show (20 : Int32) = nI 20 by decide, mn_n (by omega) (by decide)]
  by_cases hw : f_M_in 0 w 0 (nI (min r 20) - 1) = true
  · have hr : 0 < min r 20 := by
      rcases Nat.eq_zero_or_pos (min r 20) with h0 | h0
      · rw [h0] at hw
        obtain ⟨i, q1, -⟩ := tk_t (τ := sI τ 0 0 (nI 0)) (t := 0) rfl (by decide) (p := w) hw
        omega
      · exact h0
    obtain ⟨i, -, h1, rfl⟩ := in_t hw (a := 0) (b := min r 20 - 1) (by decide) (by rw [show min r 20 = (min r 20 - 1) + 1 by omega, nI_pred]; rfl) (by decide) (by omega)
    rw [if_neg (by rw [hw]; decide), if_pos (ok_nI (by omega) (by decide)), if_neg (by
      unfold f_M_in
      rw [if_neg (nI_pos (by omega)), if_neg (by rw [show (19 : Int32) = nI 19 by decide, nIlt (by decide) (by omega)]; omega)]
      decide), if_neg (by rw [nIle (by omega) (by omega)]; omega), if_pos (ok_nI (by omega) (by decide)), nx_nI (by omega)]
    exact ⟨_, rfl, by rw [r3 i (by omega) (by omega)]⟩
  · rw [if_pos (by cases e : f_M_in 0 w 0 (nI (min r 20) - 1) with | true => exact absurd e hw | false => rfl)]
    refine ⟨-1, rfl, ?_⟩
    by_cases h2 : f_M_in 0 w 0 19 = true
    · rw [if_neg (by rw [h2]; decide)]
      obtain ⟨i, -, h3, rfl⟩ := in_t h2 (a := 0) (b := 19) (by decide) (by decide) (by decide) (by decide)
      rw [if_pos]
      rw [nIle (by omega) (by omega)]
      rcases Nat.lt_or_ge i r with h4 | h4
      · exfalso
        apply hw
        unfold f_M_in
        rw [if_neg (nI_pos (by omega)), show min r 20 = (min r 20 - 1) + 1 by omega, nI_pred, if_neg (by rw [nIlt (by omega) (by omega)]; omega)]
      · exact h4
    · rw [if_pos (by cases e : f_M_in 0 w 0 19 with | true => exact absurd e h2 | false => rfl)]

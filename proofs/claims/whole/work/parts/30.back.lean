/-! ===== PURE: askings go and come back ===== -/
theorem ask {N : Nat} {σ τb τ : St} {t d s : Nat} {CL : List Cl} {CLs : List (List Cl)} (h : RR N σ τb t d CL CLs s) (hf : FT τb τ) : ∃ σ1 τ1, f_K_becomes 67 49 σ = some σ1 ∧ f_M_keep 0 τ = some τ1 ∧ AK σ τb σ1 τ1 ∧ ((∀ f, f ≠ 33 → f ≠ 34 → vI τ1 0 f = vI τ 0 f) ∧ (∀ k, k ≠ 18 → k ≠ 19 → k ≠ 20 → vJ τ1 k = vJ τ k)) ∧ vI σ1 67 11 = nI (leA CL) ∧ vI σ1 67 12 = nI (fuA CL) ∧ ∀ σ2, AG σ1 σ2 → LF σ2 67 τ1 CL → KR σ2 67 τ1 t d CL := by
  obtain ⟨⟨⟨⟨a1, a2, a3, a4, a5, a6⟩, ⟨g, g0, g1, g2⟩, b1, b2, b3, c1, c2, c3, c4, c5⟩, h2, h3, ⟨h4, h5, h6, h7⟩, h8⟩, -, -⟩ := h
  have hr := tg_1 c4
  obtain ⟨σ1, e1, x1, x2, x3, x4, x5, x6, x7, x8⟩ := bec_67_49 (tgb_of c4)
  obtain ⟨τ1, e2, k1, k2, k3, k4⟩ := keep2 τ
  obtain ⟨f1, f2, f3⟩ := hf
  have LA : vI σ 49 11 = nI (leA CL) ∧ vI σ 49 12 = nI (fuA CL) := by
    obtain ⟨l1, l2⟩ := c1
    refine ⟨?_, ?_⟩
    · rcases l1 with ⟨-, l⟩ | ⟨l, q1, q2, -⟩
      · exact l
      · exact absurd (q2.symm.trans h4) (nIm1 (by omega))
    · rcases l2 with ⟨-, l⟩ | ⟨l, q1, q2, -⟩
      · exact l
      · exact absurd (q2.symm.trans h5) (nIm1 (by omega))
  refine ⟨σ1, τ1, e1, e2, ⟨⟨fun k f q1 q2 => x5 k f (by omega), fun k q1 q2 q3 => x6 k (by omega), x7, fun k q1 q2 => x8 k q1⟩, ⟨fun f _ => x5 49 f (by decide), x6 53 (by decide), x6 54 (by decide), x6 55 (by decide), x6 56 (by decide)⟩, ⟨fun f q => ?_, fun k q => ?_, fun k q => ?_⟩, ?_⟩, ⟨k2, k3⟩, ?_, ?_, ?_⟩
  · simp at q
    rw [k2 f (by omega) (by omega), f1 f (by omega) (by omega) (by omega) (by omega)]
  · simp at q
    rw [k3 k (by omega) (by omega) (by omega), f2]
  · rw [k4, f3]
  · obtain ⟨w1, w2, w3⟩ := k1
    refine ⟨w1.trans (f1 1 (by decide) (by decide) (by decide) (by decide)), w2.trans (f1 2 (by decide) (by decide) (by decide) (by decide)), ?_⟩
    rw [f2, f2, f2] at w3
    exact w3
  · rw [x1 11 (by decide)]; exact LA.1
  · rw [x1 12 (by decide)]; exact LA.2
  · intro σ2 hA hL
    have jm : ∀ k, k ≠ 18 → k ≠ 19 → k ≠ 20 → vJ τ1 k = vJ τb k := fun k q1 q2 q3 => (k3 k q1 q2 q3).trans (f2 k)
    have im : ∀ f, f ≠ 33 → f ≠ 34 → f ≠ 27 → f ≠ 28 → f ≠ 31 → f ≠ 32 → vI τ1 0 f = vI τb 0 f := fun f q1 q2 q3 q4 q5 q6 => (k2 f q1 q2).trans (f1 f q3 q4 q5 q6)
    refine ⟨⟨a1, a2, ?_, ?_, ?_, ?_⟩, ⟨g, g0, ?_, ?_⟩, fun i hi => ?_, fun i hi => ?_, fun i hi => ?_, hL, ?_, c3, ?_, ?_⟩
    · rw [hA.1 67 0 (Or.inr (by decide)), x1 0 (by decide)]; exact a3
    · rw [im 0 (by decide) (by decide) (by decide) (by decide) (by decide) (by decide)]; exact a4
    · rw [hA.1 67 9 (Or.inr (by decide)), x1 9 (by decide)]; exact a5
    · rw [im 2 (by decide) (by decide) (by decide) (by decide) (by decide) (by decide)]; exact a6
    · rw [hA.1 67 8 (Or.inr (by decide)), x1 8 (by decide)]; exact g1
    · rw [im 1 (by decide) (by decide) (by decide) (by decide) (by decide) (by decide)]; exact g2
    · rw [hA.2.1, hA.2.1, hA.2.1, hA.2.1, hA.2.1, hA.2.1]
      obtain ⟨w1, w2, w3, w4, w5, w6⟩ := x2 i hi
      obtain ⟨v1, v2, v3, v4, v5, v6⟩ := b1 i hi
      rw [jm 1 (by decide) (by decide) (by decide), jm 2 (by decide) (by decide) (by decide), jm 3 (by decide) (by decide) (by decide), jm 4 (by decide) (by decide) (by decide), jm 5 (by decide) (by decide) (by decide), jm 6 (by decide) (by decide) (by decide)]
      exact ⟨w1.trans v1, w2.trans v2, w3.trans v3, w4.trans v4, w5.trans v5, w6.trans v6⟩
    · rw [hA.2.1, jm 7 (by decide) (by decide) (by decide)]
      exact (x3 i hi).trans (b2 i hi)
    · rw [jm 3 (by decide) (by decide) (by decide)]; exact b3 i hi
    · exact MH_congr (im 11 (by decide) (by decide) (by decide) (by decide) (by decide) (by decide)) (fun k q1 q2 => jm k (by omega) (by omega) (by omega)) c2
    · rw [hA.2.2.2, x4]; exact c4
    · rw [hA.2.2.2, x4]
      exact XR_congr (fun f => (hA.1 _ f (Or.inl (by omega))).trans (x5 _ f (by omega))) (fun k q1 q2 => (hA.2.1 _).trans (x6 _ (by omega))) c5
theorem AK.back {N : Nat} {σ0 τ0 σ τ : St} {t d s : Nat} {CL : List Cl} {CLs : List (List Cl)} (h : AK σ0 τ0 σ τ) (hR : RR N σ0 τ0 t d CL CLs s) : ∃ τ', f_M_putBack 0 τ = some τ' ∧ ((∀ f, f ≠ 1 → f ≠ 2 → vI τ' 0 f = vI τ 0 f) ∧ (∀ k, k ≠ 4 → k ≠ 5 → k ≠ 6 → vJ τ' k = vJ τ k)) ∧ ∃ τb, RR N σ τb t d CL CLs s ∧ FT τb τ' := by
  obtain ⟨px, nx, pm, kp⟩ := h
  obtain ⟨h1, h2, h3⟩ := hR
  obtain ⟨τ', e, k1, k2, k3, k4, k5, k6⟩ := back2 kp
  have hb : FT (sI (sI (sI (sI τ' 0 27 (-1)) 0 28 (-1)) 0 31 (-1)) 0 32 (-1)) τ' := ⟨fun f q1 q2 q3 q4 => by simp [vI_sI, q1, q2, q3, q4], fun _ => rfl, fun _ => rfl⟩
  have hp : PM τ0 (sI (sI (sI (sI τ' 0 27 (-1)) 0 28 (-1)) 0 31 (-1)) 0 32 (-1)) := by
    refine ⟨fun f q => ?_, fun k q => ?_, fun k q => ?_⟩
    · have q' := q
      simp at q
      rw [← hb.1 f (by omega) (by omega) (by omega) (by omega), k4 f (by omega) (by omega)]
      exact pm.1 f q'
    · have q' := q
      simp at q
      rw [← hb.2.1 k, k5 k (by omega) (by omega) (by omega)]
      exact pm.2.1 k q'
    · rw [← hb.2.2 k, k6]
      exact pm.2.2 k q
  refine ⟨τ', e, ⟨k4, k5⟩, _, ⟨R1.keep px nx hp ⟨?_, ?_, ⟨?_, ?_, ?_, ?_⟩, fun i hi => ?_⟩ h1, h2.keep px hp, ?_⟩, hb⟩
  · rw [← hb.1 1 (by decide) (by decide) (by decide) (by decide)]; exact k1
  · rw [← hb.1 2 (by decide) (by decide) (by decide) (by decide)]; exact k2
  · simp [vI_sI]
  · simp [vI_sI]
  · simp [vI_sI]
  · simp [vI_sI]
  · rw [← hb.2.1, ← hb.2.1, ← hb.2.1]; exact k3 i hi
  · unfold FB
    rw [← hb.2.1, ← hb.2.1]
    refine ⟨fun i hi => ?_, ?_⟩
    · rw [(k3 i hi).2.1]; exact h3.1 i hi
    · rw [k5 30 (by decide) (by decide) (by decide), pm.2.1 30 (by decide)]; exact h3.2
/-- a plain asking: nothing is told for a while -/
theorem ask0 {N : Nat} {σ τ : St} {t d s : Nat} {CL : List Cl} {CLs : List (List Cl)} (h : RR N σ τ t d CL CLs s) : ∃ σ1 τ1, f_K_becomes 67 49 σ = some σ1 ∧ f_M_keep 0 τ = some τ1 ∧ AK σ τ σ1 τ1 ∧ ((∀ f, f ≠ 33 → f ≠ 34 → vI τ1 0 f = vI τ 0 f) ∧ (∀ k, k ≠ 18 → k ≠ 19 → k ≠ 20 → vJ τ1 k = vJ τ k)) ∧ KR σ1 67 τ1 t d CL ∧ LK τ1 := by
  obtain ⟨σ1, τ1, e1, e2, hA, hk, l1, l2, hK⟩ := ask h FT.rf
  have hl : LK τ1 := by
    obtain ⟨⟨-, -, -, l, -⟩, -⟩ := h
    unfold LK
    rw [hk.1 27 (by decide) (by decide), hk.1 28 (by decide) (by decide), hk.1 31 (by decide) (by decide), hk.1 32 (by decide) (by decide)]
    exact l
  exact ⟨σ1, τ1, e1, e2, hA, hk, hK σ1 AG.rf ⟨Or.inl ⟨hl.1, l1⟩, Or.inl ⟨hl.2.1, l2⟩⟩, hl⟩
theorem AK.back0 {N : Nat} {σ0 τ0 σ τ : St} {t d s : Nat} {CL : List Cl} {CLs : List (List Cl)} (h : AK σ0 τ0 σ τ) (hR : RR N σ0 τ0 t d CL CLs s) (hl : LK τ) : ∃ τ', f_M_putBack 0 τ = some τ' ∧ ((∀ f, f ≠ 1 → f ≠ 2 → vI τ' 0 f = vI τ 0 f) ∧ (∀ k, k ≠ 4 → k ≠ 5 → k ≠ 6 → vJ τ' k = vJ τ k)) ∧ RR N σ τ' t d CL CLs s := by
  obtain ⟨τ', e, hk, τb, h1, h2⟩ := h.back hR
  refine ⟨τ', e, hk, FT.fin h1 h2 ?_⟩
  unfold LK
  rw [hk.1 27 (by decide) (by decide), hk.1 28 (by decide) (by decide), hk.1 31 (by decide) (by decide), hk.1 32 (by decide) (by decide)]
  exact hl
theorem FMd.lk {τ τ' : St} (h : FMd τ τ') (hl : LK τ) : LK τ' := by
  unfold LK
  rw [h.1 27 (by decide) (by decide) (by decide), h.1 28 (by decide) (by decide) (by decide), h.1 31 (by decide) (by decide) (by decide), h.1 32 (by decide) (by decide) (by decide)]
  exact hl
theorem sub_nI {x : Int32} {m : Nat} : x + nI m - x = nI m := by rw [Int32.add_comm, Int32.add_sub_cancel]
theorem fin2 {N n : Nat} {σ τb τ : St} {t d s : Nat} {CL : List Cl} {CLs : List (List Cl)} {x3 : Int32} (h : RR N σ τb t d CL CLs s) (hf : FT τb τ) (hn : n ≤ 60) (hw : WH x3 (vI τ 0 31) t) (h32 : vI τ 0 32 = -1) (g : St → St) (hg : ∀ σ1, AG σ1 (g σ1)) (hLF : ∀ σ1 τ1, vI σ1 67 11 = nI (leA CL) → vI σ1 67 12 = nI (fuA CL) → vI τ1 0 27 = vI τ 0 27 → vI τ1 0 28 = vI τ 0 28 → LF (g σ1) 67 τ1 CL) : ∃ m σ1 σ' τ', f_K_becomes 67 49 σ = some σ1 ∧ f_K_go 67 (nI n) (-1) x3 (g σ1) = some (nI m, σ') ∧ f_M_fetchesIn 0 (nI n) τ = some (nI m, τ') ∧ m ≤ 5040 ∧ ((∀ f, f ≠ 1 → f ≠ 2 → f ≠ 30 → f ≠ 33 → f ≠ 34 → vI τ' 0 f = vI τ 0 f) ∧ ∀ k, k ≠ 4 → k ≠ 5 → k ≠ 6 → k ≠ 17 → k ≠ 18 → k ≠ 19 → k ≠ 20 → vJ τ' k = vJ τ k) ∧ PX σ σ' ∧ ∃ τb', RR N σ' τb' t d CL CLs s ∧ FT τb' τ' := by
  have ht := h.1.1.1.1
  have hT : vI τ 0 0 = nI t := by rw [hf.1 0 (by decide) (by decide) (by decide) (by decide)]; exact h.1.1.1.2.2.2.1
  have hd := h.1.2.1
  obtain ⟨σ1, τ1, e1, e2, hA, hk, l1, l2, hK⟩ := ask h hf
  have K := hK (g σ1) (hg σ1) (hLF σ1 τ1 l1 l2 (hk.1 27 (by decide) (by decide)) (hk.1 28 (by decide) (by decide)))
  obtain ⟨m, σ2, τ2, q1, q2, q3, q4, q5, q6, q7, -⟩ := go2 (by decide) K (x2 := -1) (x3 := x3) (Or.inl ⟨rfl, by rw [hk.1 32 (by decide) (by decide)]; exact h32⟩) (by rw [hk.1 31 (by decide) (by decide)]; exact hw) hn (by omega)
  have hA2 : AK σ τb (g σ1) τ1 := ⟨hA.1.tr (hg σ1).p, hA.2.1.tr (hg σ1).n, hA.2.2⟩
  obtain ⟨τ3, e3, hb, τb', r1, r2⟩ := (hA2.d q6 q7).back h
  refine ⟨m, σ1, σ2, τ3, e1, q1, ?_, q3, ⟨fun f w1 w2 w3 w4 w5 => ?_, fun k w1 w2 w3 w4 w5 w6 w7 => ?_⟩, (hA2.d q6 q7).1, τb', r1, r2⟩
  · unfold f_M_fetchesIn
    rw [m_sum0 ht hT, Option.bind_some, e2, Option.bind_some, q2, Option.bind_some, m_sum0 ht q5.1.2.2.2.1, Option.bind_some, e3, Option.bind_some, q4, hk.2 5 (by decide) (by decide) (by decide), sub_nI]
  · rw [hb.1 f w1 w2, q7.1 f w1 w2 w3, hk.1 f w4 w5]
  · rw [hb.2 k w1 w2 w3, q7.2.1 k w1 w2 w3 w4, hk.2 k w5 w6 w7]

/-! ===== PURE: calls: image, undo ===== -/
def cps (P : List (Nat × Nat)) (i : Nat) (τ : St) : St := P.foldl (fun τ q => sJ τ q.1 (upd (vJ τ q.1) i (vJ τ q.2 i))) τ
theorem cps_I {i : Nat} : ∀ (P : List (Nat × Nat)) (τ : St), (∀ c f, vI (cps P i τ) c f = vI τ c f) ∧ (∀ k, vL (cps P i τ) k = vL τ k) ∧ ∀ k, (∀ q, q ∈ P → q.1 ≠ k) → vJ (cps P i τ) k = vJ τ k := by
  intro P
  induction P with
  | nil => intro τ; exact ⟨fun _ _ => rfl, fun _ => rfl, fun _ _ => rfl⟩
  | cons q P ih =>
    intro τ
    obtain ⟨h1, h2, h3⟩ := ih (sJ τ q.1 (upd (vJ τ q.1) i (vJ τ q.2 i)))
    refine ⟨fun c f => h1 c f, fun k => h2 k, fun k hk => ?_⟩
    have e := h3 k (fun q' hq => hk q' (List.mem_cons_of_mem _ hq))
    show vJ (cps P i (sJ τ q.1 (upd (vJ τ q.1) i (vJ τ q.2 i)))) k = _
    rw [e, vJ_sJ, if_neg (fun e => hk q List.mem_cons_self e.symm)]
theorem cps_J {i : Nat} : ∀ (P : List (Nat × Nat)) (τ : St), (P.map Prod.fst).Nodup → (∀ q, q ∈ P → ∀ q', q' ∈ P → q.1 ≠ q'.2) → ∀ q, q ∈ P → vJ (cps P i τ) q.1 = upd (vJ τ q.1) i (vJ τ q.2 i) := by
  intro P
  induction P with
  | nil => intro τ _ _ q hq; cases hq
  | cons p P ih =>
    intro τ hN hD q hq
    obtain ⟨hN1, hN2⟩ := List.nodup_cons.mp hN
    have hp1 : ∀ q, q ∈ P → q.1 ≠ p.1 := fun q hq e => hN1 (List.mem_map.mpr ⟨q, hq, e⟩)
    show vJ (cps P i (sJ τ p.1 (upd (vJ τ p.1) i (vJ τ p.2 i)))) q.1 = _
    rcases List.mem_cons.mp hq with e | hq'
    · rw [e, (cps_I P _).2.2 p.1 hp1, vJ_sJ, if_pos rfl]
    · rw [ih _ hN2 (fun a ha b hb => hD a (List.mem_cons_of_mem _ ha) b (List.mem_cons_of_mem _ hb)) q hq', vJ_sJ, vJ_sJ, if_neg (hp1 q hq'), if_neg (fun e => hD p List.mem_cons_self q hq e.symm)]
def CY (P : List (Nat × Nat)) (i : Nat) (τ0 τ : St) : Prop := (∀ c f, vI τ c f = vI τ0 c f) ∧ (∀ k, vL τ k = vL τ0 k) ∧ (∀ k, (∀ q, q ∈ P → q.1 ≠ k) → vJ τ k = vJ τ0 k) ∧ ∀ q, q ∈ P → ∀ j, j < i → vJ τ q.1 j = vJ τ0 q.2 j
theorem CY.s {P : List (Nat × Nat)} {i : Nat} {τ0 τ : St} (hN : (P.map Prod.fst).Nodup) (hD : ∀ q, q ∈ P → ∀ q', q' ∈ P → q.1 ≠ q'.2) (h : CY P i τ0 τ) : CY P (i + 1) τ0 (cps P i τ) := by
  obtain ⟨h1, h2, h3, h4⟩ := h
  obtain ⟨c1, c2, c3⟩ := cps_I (i := i) P τ
  refine ⟨fun c f => (c1 c f).trans (h1 c f), fun k => (c2 k).trans (h2 k), fun k hk => (c3 k hk).trans (h3 k hk), fun q hq j hj => ?_⟩
  rw [cps_J P τ hN hD q hq]
  have e2 : vJ τ q.2 = vJ τ0 q.2 := h3 q.2 (fun q' hq' => hD q' hq' q hq)
  by_cases e : j = i
  · subst e; rw [upd_s, e2]
  · rw [upd_n e]; exact h4 q hq j (by omega)
theorem cy_l {P : List (Nat × Nat)} {m : Nat} {F : Nat → Int32 → St → Option St} (hN : (P.map Prod.fst).Nodup) (hD : ∀ q, q ∈ P → ∀ q', q' ∈ P → q.1 ≠ q'.2) (hz : ∀ n τ, F (n + 1) (nI m) τ = some τ) (hs : ∀ n i τ, i < m → F (n + 1) (nI i) τ = F n (nI (i + 1)) (cps P i τ)) {τ0 : St} : ∀ (k i n : Nat) (τ : St), i + k = m → k < n → CY P i τ0 τ → ∃ τ', F n (nI i) τ = some τ' ∧ CY P m τ0 τ' := by
  intro k
  induction k with
  | zero =>
    intro i n τ hi hn h
    obtain ⟨n, rfl⟩ : ∃ z, n = z + 1 := ⟨n - 1, by omega⟩
    have e : i = m := by omega
    rw [e] at h ⊢
    exact ⟨τ, hz n τ, h⟩
  | succ k ih =>
    intro i n τ hi hn h
    obtain ⟨n, rfl⟩ : ∃ z, n = z + 1 := ⟨n - 1, by omega⟩
    rw [hs n i τ (by omega)]
    exact ih (i + 1) n _ (by omega) (by omega) (h.s hN hD)
theorem CY.rf {P : List (Nat × Nat)} {τ : St} : CY P 0 τ τ := ⟨fun _ _ => rfl, fun _ => rfl, fun _ _ => rfl, fun _ _ _ h => absurd h (Nat.not_lt_zero _)⟩
def P6i : List (Nat × Nat) := [(26, 1), (27, 2), (28, 3), (29, 4), (30, 5), (31, 6), (33, 23), (34, 24)]
def P6u : List (Nat × Nat) := [(1, 26), (2, 27), (3, 28), (4, 29), (5, 30), (6, 31), (23, 33), (24, 34)]
theorem im6 (τ : St) : ∃ τ', f_M_image_l55 FU 0 0 τ = some τ' ∧ CY P6i 6 τ τ' := by
  have h := cy_l (P := P6i) (m := 6) (F := fun n x τ => f_M_image_l55 n 0 x τ) (τ0 := τ) (by decide) (by decide) (fun n τ => by
    show f_M_image_l55 (n + 1) 0 (nI 6) τ = some τ
    rw [f_M_image_l55, if_pos (by rw [show (6 : Int32) = nI 6 by decide]; exact nI_le (by omega) (by omega))]) (fun n i τ hi => by
    have hok : ok (nI i) 6 = true := ok_nI hi (by decide)
    show f_M_image_l55 (n + 1) 0 (nI i) τ = f_M_image_l55 n 0 (nI (i + 1)) (cps P6i i τ)
    rw [f_M_image_l55, if_neg (by rw [show (6 : Int32) = nI 6 by decide]; exact nI_ge (by omega) (by decide))]
    simp only [hok, if_true, st, nx_nI (show i < 2 ^ 31 by omega), nI_1]
    rfl) 6 0 FU τ rfl (by decide) CY.rf
  rw [nI_0] at h
  exact h
theorem im24 (τ : St) : ∃ τ', f_M_image_l165 FU 0 0 τ = some τ' ∧ CY [(32, 7)] 24 τ τ' := by
  have h := cy_l (P := [(32, 7)]) (m := 24) (F := fun n x τ => f_M_image_l165 n 0 x τ) (τ0 := τ) (by decide) (by decide) (fun n τ => by
    show f_M_image_l165 (n + 1) 0 (nI 24) τ = some τ
    rw [f_M_image_l165, if_pos (by rw [show (24 : Int32) = nI 24 by decide]; exact nI_le (by omega) (by omega))]) (fun n i τ hi => by
    have hok : ok (nI i) 24 = true := ok_nI hi (by decide)
    show f_M_image_l165 (n + 1) 0 (nI i) τ = f_M_image_l165 n 0 (nI (i + 1)) (cps [(32, 7)] i τ)
    rw [f_M_image_l165, if_neg (by rw [show (24 : Int32) = nI 24 by decide]; exact nI_ge (by omega) (by decide))]
    simp only [hok, if_true, st, nx_nI (show i < 2 ^ 31 by omega), nI_1]
    rfl) 24 0 FU τ rfl (by decide) CY.rf
  rw [nI_0] at h
  exact h
theorem im12 (τ : St) : ∃ τ', f_M_image_l191 FU 0 0 τ = some τ' ∧ CY [(35, 25)] 12 τ τ' := by
  have h := cy_l (P := [(35, 25)]) (m := 12) (F := fun n x τ => f_M_image_l191 n 0 x τ) (τ0 := τ) (by decide) (by decide) (fun n τ => by
    show f_M_image_l191 (n + 1) 0 (nI 12) τ = some τ
    rw [f_M_image_l191, if_pos (by rw [show (12 : Int32) = nI 12 by decide]; exact nI_le (by omega) (by omega))]) (fun n i τ hi => by
    have hok : ok (nI i) 12 = true := ok_nI hi (by decide)
    show f_M_image_l191 (n + 1) 0 (nI i) τ = f_M_image_l191 n 0 (nI (i + 1)) (cps [(35, 25)] i τ)
    rw [f_M_image_l191, if_neg (by rw [show (12 : Int32) = nI 12 by decide]; exact nI_ge (by omega) (by decide))]
    simp only [hok, if_true, st, nx_nI (show i < 2 ^ 31 by omega), nI_1]
    rfl) 12 0 FU τ rfl (by decide) CY.rf
  rw [nI_0] at h
  exact h
theorem un6 (τ : St) : ∃ τ', f_M_undo_l60 FU 0 0 τ = some τ' ∧ CY P6u 6 τ τ' := by
  have h := cy_l (P := P6u) (m := 6) (F := fun n x τ => f_M_undo_l60 n 0 x τ) (τ0 := τ) (by decide) (by decide) (fun n τ => by
    show f_M_undo_l60 (n + 1) 0 (nI 6) τ = some τ
    rw [f_M_undo_l60, if_pos (by rw [show (6 : Int32) = nI 6 by decide]; exact nI_le (by omega) (by omega))]) (fun n i τ hi => by
    have hok : ok (nI i) 6 = true := ok_nI hi (by decide)
    show f_M_undo_l60 (n + 1) 0 (nI i) τ = f_M_undo_l60 n 0 (nI (i + 1)) (cps P6u i τ)
    rw [f_M_undo_l60, if_neg (by rw [show (6 : Int32) = nI 6 by decide]; exact nI_ge (by omega) (by decide))]
    simp only [hok, if_true, st, nx_nI (show i < 2 ^ 31 by omega), nI_1]
    rfl) 6 0 FU τ rfl (by decide) CY.rf
  rw [nI_0] at h
  exact h
theorem un24 (τ : St) : ∃ τ', f_M_undo_l170 FU 0 0 τ = some τ' ∧ CY [(7, 32)] 24 τ τ' := by
  have h := cy_l (P := [(7, 32)]) (m := 24) (F := fun n x τ => f_M_undo_l170 n 0 x τ) (τ0 := τ) (by decide) (by decide) (fun n τ => by
    show f_M_undo_l170 (n + 1) 0 (nI 24) τ = some τ
    rw [f_M_undo_l170, if_pos (by rw [show (24 : Int32) = nI 24 by decide]; exact nI_le (by omega) (by omega))]) (fun n i τ hi => by
    have hok : ok (nI i) 24 = true := ok_nI hi (by decide)
    show f_M_undo_l170 (n + 1) 0 (nI i) τ = f_M_undo_l170 n 0 (nI (i + 1)) (cps [(7, 32)] i τ)
    rw [f_M_undo_l170, if_neg (by rw [show (24 : Int32) = nI 24 by decide]; exact nI_ge (by omega) (by decide))]
    simp only [hok, if_true, st, nx_nI (show i < 2 ^ 31 by omega), nI_1]
    rfl) 24 0 FU τ rfl (by decide) CY.rf
  rw [nI_0] at h
  exact h
theorem un12 (τ : St) : ∃ τ', f_M_undo_l196 FU 0 0 τ = some τ' ∧ CY [(25, 35)] 12 τ τ' := by
  have h := cy_l (P := [(25, 35)]) (m := 12) (F := fun n x τ => f_M_undo_l196 n 0 x τ) (τ0 := τ) (by decide) (by decide) (fun n τ => by
    show f_M_undo_l196 (n + 1) 0 (nI 12) τ = some τ
    rw [f_M_undo_l196, if_pos (by rw [show (12 : Int32) = nI 12 by decide]; exact nI_le (by omega) (by omega))]) (fun n i τ hi => by
    have hok : ok (nI i) 12 = true := ok_nI hi (by decide)
    show f_M_undo_l196 (n + 1) 0 (nI i) τ = f_M_undo_l196 n 0 (nI (i + 1)) (cps [(25, 35)] i τ)
    rw [f_M_undo_l196, if_neg (by rw [show (12 : Int32) = nI 12 by decide]; exact nI_ge (by omega) (by decide))]
    simp only [hok, if_true, st, nx_nI (show i < 2 ^ 31 by omega), nI_1]
    rfl) 12 0 FU τ rfl (by decide) CY.rf
  rw [nI_0] at h
  exact h
theorem nb_80 {σ : St} : ∃ σ', f_N_become 80 76 σ = some σ' ∧ vI σ' 80 0 = vI σ 76 0 ∧ vI σ' 80 3 = vI σ 76 3 ∧ (∀ i, i < 6 → vJ σ' 81 i = vJ σ 77 i ∧ vJ σ' 82 i = vJ σ 78 i) ∧ (∀ i, i < 12 → vJ σ' 83 i = vJ σ 79 i) ∧ (∀ k f, k ≠ 80 → vI σ' k f = vI σ k f) ∧ (∀ k, k < 81 ∨ 83 < k → vJ σ' k = vJ σ k) ∧ (∀ k, vL σ' k = vL σ k) ∧ (∀ k, vH σ' k = vH σ k) := by
  unfold f_N_become
  simp only [show okc 0 6 6 = true by decide, show okc 0 12 12 = true by decide, if_true, st]
  refine ⟨_, rfl, ?_, ?_, fun i hi => ?_, fun i hi => ?_, fun k f hk => ?_, fun k hk => ?_, fun k => rfl, fun k => rfl⟩
  · simp [vI_sI, vI_sJ]
  · simp [vI_sI, vI_sJ]
  · simp [vJ_sI, vJ_sJ, va_cpy, hi, show nx 0 = 0 by decide, show nx 6 = 6 by decide]
  · simp [vJ_sI, vJ_sJ, va_cpy, hi, show nx 0 = 0 by decide, show nx 12 = 12 by decide]
  · simp [vI_sI, vI_sJ, hk]
  · simp only [vJ_sI, vJ_sJ]
    rw [if_neg (by omega), if_neg (by omega), if_neg (by omega)]
theorem nb_76 {σ : St} : ∃ σ', f_N_become 76 80 σ = some σ' ∧ vI σ' 76 0 = vI σ 80 0 ∧ vI σ' 76 3 = vI σ 80 3 ∧ (∀ i, i < 6 → vJ σ' 77 i = vJ σ 81 i ∧ vJ σ' 78 i = vJ σ 82 i) ∧ (∀ i, i < 12 → vJ σ' 79 i = vJ σ 83 i) ∧ (∀ k f, k ≠ 76 → vI σ' k f = vI σ k f) ∧ (∀ k, k < 77 ∨ 79 < k → vJ σ' k = vJ σ k) ∧ (∀ k, vL σ' k = vL σ k) ∧ (∀ k, vH σ' k = vH σ k) := by
  unfold f_N_become
  simp only [show okc 0 6 6 = true by decide, show okc 0 12 12 = true by decide, if_true, st]
  refine ⟨_, rfl, ?_, ?_, fun i hi => ?_, fun i hi => ?_, fun k f hk => ?_, fun k hk => ?_, fun k => rfl, fun k => rfl⟩
  · simp [vI_sI, vI_sJ]
  · simp [vI_sI, vI_sJ]
  · simp [vJ_sI, vJ_sJ, va_cpy, hi, show nx 0 = 0 by decide, show nx 6 = 6 by decide]
  · simp [vJ_sI, vJ_sJ, va_cpy, hi, show nx 0 = 0 by decide, show nx 12 = 12 by decide]
  · simp [vI_sI, vI_sJ, hk]
  · simp only [vJ_sI, vJ_sJ]
    rw [if_neg (by omega), if_neg (by omega), if_neg (by omega)]
theorem LF.le {σ τ : St} {c : Nat} {CL : List Cl} (h : LF σ c τ CL) (h27 : vI τ 0 27 = -1) : vI σ c 11 = nI (leA CL) := by
  rcases h.1 with ⟨_, e⟩ | ⟨l, hl, e, _⟩
  · exact e
  · exact absurd (e.symm.trans h27) (nIm1 (by omega))
theorem LF.fu {σ τ : St} {c : Nat} {CL : List Cl} (h : LF σ c τ CL) (h28 : vI τ 0 28 = -1) : vI σ c 12 = nI (fuA CL) := by
  rcases h.2 with ⟨_, e⟩ | ⟨l, hl, e, _⟩
  · exact e
  · exact absurd (e.symm.trans h28) (nIm1 (by omega))
theorem NR.to {σ σ' : St} {c c' : Nat} {sn bk sn' bk' : Int32} {fo le bo fo' le' bo' : Nat → Int32} (h : NR σ c sn bk fo le bo) (h0 : vI σ' c' 0 = vI σ c 0) (h3 : vI σ' c' 3 = vI σ c 3) (hs : sn' = sn) (hb : bk' = bk) (hJ : ∀ i, i < 6 → vJ σ' (c' + 1) i = vJ σ (c + 1) i ∧ vJ σ' (c' + 2) i = vJ σ (c + 2) i) (hK : ∀ i, i < 12 → vJ σ' (c' + 3) i = vJ σ (c + 3) i) (hf : ∀ i, i < 6 → fo' i = fo i ∧ le' i = le i) (hg : ∀ i, i < 12 → bo' i = bo i) : NR σ' c' sn' bk' fo' le' bo' := by
  obtain ⟨a, b, h1, h2, h3', h4, h5, h6, h7, h8, h9⟩ := h
  refine ⟨a, b, h1, h2, h0.trans h3', hs.trans h4, h3.trans h5, hb.trans h6, fun i hi => ?_, fun i hi => ?_, fun i hi => ?_⟩
  · rw [(hJ i hi).1, (hJ i hi).2, (hf i hi).1, (hf i hi).2]; exact h7 i hi
  · rw [hK i hi, hg i hi]; exact h8 i hi
  · rw [(hf i (by omega)).1]; exact h9 i hi
theorem HL.mh {σ τ : St} {CL : List Cl} {CLs : List (List Cl)} {hx : Nat} {the : Int32} (h : HL CLs hx the CL) (h2 : R2 σ τ CLs) (ht : vI τ 0 11 = the) : MH τ CL ∧ CLok CL ∧ tg BX hx 1 ∧ XR σ hx CL := by
  have tg7 : ∀ j, j < 6 → tg BX (7 + 6 * j) 1 := by
    have : ∀ j, j < 6 → (7 + 6 * j < 104 ∧ tagsX.getD (7 + 6 * j) 50 = 1) := by decide
    exact this
  obtain ⟨-, -, -, x1, x2⟩ := h2
  rcases h with ⟨rfl, e, rfl⟩ | ⟨j, hj, rfl, e, hC⟩
  · refine ⟨Or.inl ⟨rfl, ht.trans e⟩, (fun c hc => absurd hc (by simp)), ?_, x1⟩
    exact (show (1 < 104 ∧ tagsX.getD 1 50 = 1) by decide)
  · obtain ⟨y1, y2, y3⟩ := x2 j CL hC
    exact ⟨Or.inr ⟨j, hj, ht.trans e, y2⟩, y3, tg7 j hj, y1⟩
/-- when the image alone changes -/
theorem RR.img {N : Nat} {σ σ' τ τ' : St} {t d s : Nat} {CL : List Cl} {CLs : List (List Cl)} (h : RR N σ τ t d CL CLs s) (hI : ∀ k f, ¬ (58 ≤ k ∧ k < 66) → ¬ (80 ≤ k ∧ k < 84) → (k ≠ 0 ∨ f ≠ 6) → vI σ' k f = vI σ k f) (hJ : ∀ k, ¬ (58 ≤ k ∧ k < 66) → ¬ (80 ≤ k ∧ k < 84) → vJ σ' k = vJ σ k) (hL : ∀ k, vL σ' k = vL σ k) (hH : ∀ k, k ≠ 58 → vH σ' k = vH σ k) (mI : ∀ f, f < 45 ∨ 51 < f → vI τ' 0 f = vI τ 0 f) (mJ : ∀ k, k < 26 ∨ 35 < k → vJ τ' k = vJ τ k) (mL : ∀ k, vL τ' k = vL τ k) (h5 : R5 σ' τ' CLs) (f30 : ∀ i, i < 6 → ∃ k, k ≤ N ∧ vJ τ' 30 i = nI k) : RR N σ' τ' t d CL CLs s := by
  obtain ⟨⟨k1, k2, k3, ⟨l1, l2, l3, l4⟩, k5⟩, ⟨r2, r3, r4, -, r6, r7, r8⟩, f1, f2⟩ := h
  have sx : ∀ {a b : Nat}, 0 < a ∧ (b ≤ 58 ∨ (66 ≤ a ∧ b ≤ 80) ∨ 84 ≤ a) → SX a b σ σ' := fun hb k q1 q2 => ⟨fun f => hI k f (by omega) (by omega) (by omega), hJ k (by omega) (by omega), hL k, hH k (by omega)⟩
  have k1' := k1
  obtain ⟨⟨n1, n1b, n1c, n1d, n1e, n1f⟩, ⟨g, g0, g1, g2⟩, n3, n4, n5, -⟩ := k1'
  refine ⟨⟨k1.re (sx (by decide)) (hI _ _ (by decide) (by decide) (by decide)) (hI _ _ (by decide) (by decide) (by decide)) (hH _ (by decide)) (mI _ (by decide)) (mI _ (by decide)) (mI _ (by decide)) (fun k q1 q2 => mJ k (by omega)) ⟨n1, n1b, by rw [hI _ _ (by decide) (by decide) (by decide)]; exact n1c, by rw [mI _ (by decide)]; exact n1d, by rw [hI _ _ (by decide) (by decide) (by decide)]; exact n1e, by rw [mI _ (by decide)]; exact n1f⟩ ⟨g, g0, by rw [hI _ _ (by decide) (by decide) (by decide)]; exact g1, by rw [mI _ (by decide)]; exact g2⟩ (fun i hi => ?_) (fun i hi => ?_) (fun i hi => ?_), k2, fun i hi => ?_, ⟨?_, ?_, ?_, ?_⟩, ?_⟩, ⟨r2.c (hI _ _ (by decide) (by decide) (by decide)) (sx (by decide)) (mI _ (by decide)) (fun k q1 q2 => mJ k (by omega)), r3.c (hI _ _ (by decide) (by decide) (by decide)) (hJ _ (by decide) (by decide)) (mI _ (by decide)) (mJ _ (by decide)), r4.c (sx (by decide)) (mI _ (by decide)) (mI _ (by decide)) (mJ _ (by decide)) (mJ _ (by decide)) (mJ _ (by decide)), h5, r6.c (sx (by decide)) (mJ _ (by decide)) (mJ _ (by decide)) (mL _), r7.c (hI _ _ (by decide) (by decide) (by decide)) (hJ _ (by decide) (by decide)) (mI _ (by decide)) (mJ _ (by decide)), r8.c (mJ _ (by decide))⟩, ?_, f30⟩
  · rw [hJ _ (by decide) (by decide), hJ _ (by decide) (by decide), hJ _ (by decide) (by decide), hJ _ (by decide) (by decide), hJ _ (by decide) (by decide), hJ _ (by decide) (by decide), mJ 1 (by decide), mJ 2 (by decide), mJ 3 (by decide), mJ 4 (by decide), mJ 5 (by decide), mJ 6 (by decide)]
    exact n3 i hi
  · rw [hJ _ (by decide) (by decide), mJ 7 (by decide)]; exact n4 i hi
  · rw [mJ 3 (by decide)]; exact n5 i hi
  · rw [mJ 1 (by decide)]; exact k3 i hi
  · rw [mI _ (by decide)]; exact l1
  · rw [mI _ (by decide)]; exact l2
  · rw [mI _ (by decide)]; exact l3
  · rw [mI _ (by decide)]; exact l4
  · rw [hH _ (by decide), mI _ (by decide)]; exact k5
  · rw [mJ 5 (by decide)]; exact f1
def imT (τ : St) : St :=
  let s2 := sI τ 0 45 1
  let s4 := sI s2 0 46 (vI s2 0 11)
  let s6 := sI s4 0 47 (vI s4 0 0)
  let s8 := sI s6 0 48 (vI s6 0 1)
  let s10 := sI s8 0 49 (vI s8 0 2)
  let s12 := sI s10 0 50 (vI s10 0 40)
  let s14 := sI s12 0 51 (vI s12 0 43)
  s14
theorem imT_f (τ : St) : (∀ f, f < 45 ∨ 51 < f → vI (imT τ) 0 f = vI τ 0 f) ∧ (vI (imT τ) 0 45 = 1 ∧ vI (imT τ) 0 46 = vI τ 0 11 ∧ vI (imT τ) 0 47 = vI τ 0 0 ∧ vI (imT τ) 0 48 = vI τ 0 1 ∧ vI (imT τ) 0 49 = vI τ 0 2 ∧ vI (imT τ) 0 50 = vI τ 0 40 ∧ vI (imT τ) 0 51 = vI τ 0 43) ∧ (∀ k, vJ (imT τ) k = vJ τ k) ∧ (∀ k, vL (imT τ) k = vL τ k) := by
  refine ⟨fun f hf => ?_, ⟨rfl, rfl, rfl, rfl, rfl, rfl, rfl⟩, fun k => rfl, fun k => rfl⟩
  simp only [imT]
  rw [vI_sI, if_pos rfl, if_neg (by omega), vI_sI, if_pos rfl, if_neg (by omega), vI_sI, if_pos rfl, if_neg (by omega), vI_sI, if_pos rfl, if_neg (by omega), vI_sI, if_pos rfl, if_neg (by omega), vI_sI, if_pos rfl, if_neg (by omega), vI_sI, if_pos rfl, if_neg (by omega)]
def unT (τ : St) : St :=
  let s3 := sI τ 0 11 (vI τ 0 46)
  let s5 := sI s3 0 0 (vI s3 0 47)
  let s7 := sI s5 0 1 (vI s5 0 48)
  let s9 := sI s7 0 2 (vI s7 0 49)
  let s11 := sI s9 0 40 (vI s9 0 50)
  let s13 := sI s11 0 43 (vI s11 0 51)
  s13
theorem unT_f (τ : St) : (∀ f, f ≠ 11 → f ≠ 0 → f ≠ 1 → f ≠ 2 → f ≠ 40 → f ≠ 43 → vI (unT τ) 0 f = vI τ 0 f) ∧ (vI (unT τ) 0 11 = vI τ 0 46 ∧ vI (unT τ) 0 0 = vI τ 0 47 ∧ vI (unT τ) 0 1 = vI τ 0 48 ∧ vI (unT τ) 0 2 = vI τ 0 49 ∧ vI (unT τ) 0 40 = vI τ 0 50 ∧ vI (unT τ) 0 43 = vI τ 0 51) ∧ (∀ k, vJ (unT τ) k = vJ τ k) ∧ (∀ k, vL (unT τ) k = vL τ k) := by
  refine ⟨fun f h1 h2 h3 h4 h5 h6 => ?_, ⟨rfl, rfl, rfl, rfl, rfl, rfl⟩, fun k => rfl, fun k => rfl⟩
  simp only [unT]
  rw [vI_sI, if_pos rfl, if_neg (by omega), vI_sI, if_pos rfl, if_neg (by omega), vI_sI, if_pos rfl, if_neg (by omega), vI_sI, if_pos rfl, if_neg (by omega), vI_sI, if_pos rfl, if_neg (by omega), vI_sI, if_pos rfl, if_neg (by omega)]
theorem op_image {N : Nat} {σ τ : St} {t d s : Nat} {CL : List Cl} {CLs : List (List Cl)} (h : RR N σ τ t d CL CLs s) : Sm N (f_X_image 0 σ) (f_M_image 0 τ) := by
  obtain ⟨⟨hK, hd, hk, ⟨l1, l2, l3, l4⟩, hHL⟩, ⟨r2, r3, r4, r5, r6, r7, r8⟩, f1, f2⟩ := id h
  obtain ⟨⟨n1, n1b, n1c, n1d, n1e, n1f⟩, ⟨g, g0, g1, g2⟩, n3, n4, n5, hLF, -, -, htg, -⟩ := hK
  obtain ⟨σ1, e1, b1, b2, b3, b4, b5, b6, b7, b8⟩ := bec_58_49 (tgb_of htg)
  obtain ⟨σ2, e2, a1, a2, a3, a4, a5, a6, a7, a8⟩ := nb_80 (σ := σ1)
  obtain ⟨T1, ⟨T45, T46, T47, T48, T49, T50, T51⟩, T2, T3⟩ := imT_f τ
  obtain ⟨τ1, q1, i1, i2, i3, i4⟩ := im6 (imT τ)
  obtain ⟨τ2, q2, j1, j2, j3, j4⟩ := im24 τ1
  obtain ⟨τ3, q3, k1, k2, k3, k4⟩ := im12 τ2
  have eM : f_M_image 0 τ = ((f_M_image_l55 FU 0 0 (imT τ)).bind fun a => (f_M_image_l165 FU 0 0 a).bind fun b => (f_M_image_l191 FU 0 0 b).bind fun c => some (vI c 0 0, c)) := rfl
  rw [eM]
  unfold f_X_image
  simp only [e1, e2, q1, q2, q3, Option.bind_some, st]
  have mI : ∀ f, vI τ3 0 f = vI (imT τ) 0 f := fun f => (k1 0 f).trans ((j1 0 f).trans (i1 0 f))
  have p6 : ∀ q, q ∈ P6i → 26 ≤ q.1 ∧ q.1 ≤ 35 ∧ q.1 ≠ 32 ∧ q.1 ≠ 35 := by decide
  have o6 : ∀ k, k < 26 ∨ 35 < k → ∀ q, q ∈ P6i → q.1 ≠ k := fun k hk q hq => by have := p6 q hq; omega
  have one : ∀ {a b k : Nat}, a ≠ k → ∀ q, q ∈ [(a, b)] → q.1 ≠ k := fun ha q hq => by rw [List.mem_singleton.mp hq]; exact ha
  have mJ : ∀ k, k < 26 ∨ 35 < k → vJ τ3 k = vJ τ k := fun k hk => (k3 k (one (by omega))).trans ((j3 k (one (by omega))).trans ((i3 k (o6 k hk)).trans (T2 k)))
  have mL : ∀ k, vL τ3 k = vL τ k := fun k => (k2 k).trans ((j2 k).trans ((i2 k).trans (T3 k)))
  have s6 : ∀ a b, (a, b) ∈ P6i → ∀ i, i < 6 → vJ τ3 a i = vJ τ b i := fun a b hq i hi => by
    have z := p6 _ hq
    simp only at z
    rw [k3 a (one (by omega)), j3 a (one (by omega))]
    exact (i4 _ hq i hi).trans (congrFun (T2 b) i)
  have s24 : ∀ i, i < 24 → vJ τ3 32 i = vJ τ 7 i := fun i hi => by
    rw [k3 32 (one (by decide))]
    refine (j4 (32, 7) (by decide) i hi).trans ?_
    show vJ τ1 7 i = _
    rw [i3 7 (o6 7 (by decide)), T2]
  have s12 : ∀ i, i < 12 → vJ τ3 35 i = vJ τ 25 i := fun i hi => by
    refine (k4 (35, 25) (by decide) i hi).trans ?_
    show vJ τ2 25 i = _
    rw [j3 25 (one (by decide)), i3 25 (o6 25 (by decide)), T2]
  have e0 : vI (sI σ2 0 6 1) 49 0 = nI t := by
    rw [vI_sI, if_neg (by decide), a5 49 0 (by decide), b5 49 0 (by decide)]; exact n1c
  have x58 : ∀ f, vI (sI σ2 0 6 1) 58 f = vI σ1 58 f := fun f => by rw [vI_sI, if_neg (by decide), a5 58 f (by decide)]
  have x80 : ∀ f, vI (sI σ2 0 6 1) 80 f = vI σ2 80 f := fun f => by rw [vI_sI, if_neg (by decide)]
  have xJ : ∀ k, k < 81 → vJ (sI σ2 0 6 1) k = vJ σ1 k := fun k hk => by rw [vJ_sI, a6 k (by omega)]
  have xH : vH (sI σ2 0 6 1) 58 = vH σ 49 := by rw [vH_sI, a8, b4]
  refine ⟨nI t, sI σ2 0 6 1, τ3, by rw [e0], by rw [mI, T1 0 (by decide), n1d], t, d, CL, CLs, s, h.img (fun k f c1 c2 c3 => ?_) (fun k c1 c2 => ?_) (fun k => ?_) (fun k hk => ?_) (fun f hf => (mI f).trans (T1 f hf)) mJ mL (Or.inr ⟨rfl, (mI 45).trans T45, t, d, CL, ⟨n1, hd, ?_, ?_, ?_, ?_⟩, ⟨g, g0, ?_, ?_⟩, fun i hi => ?_, fun i hi => ?_, fun i hi => ?_, fun i hi => ?_, ?_, ?_, ?_, ?_⟩) (fun i hi => ?_)⟩
  · have e6 : vI (sI σ2 0 6 1) k f = vI σ2 k f := by
      rw [vI_sI]
      by_cases hk0 : k = 0
      · rw [if_pos hk0, if_neg (by omega)]
      · rw [if_neg hk0]
    rw [e6, a5 k f (by omega), b5 k f (by omega)]
  · rw [vJ_sI, a6 k (by omega), b6 k (by omega)]
  · rw [vL_sI, a7, b7]
  · rw [vH_sI, a8, b8 k hk]
  · rw [x58, b1 0 (by decide)]; exact n1c
  · rw [mI, T47]; exact n1d
  · rw [x58, b1 9 (by decide)]; exact n1e
  · rw [mI, T49]; exact n1f
  · rw [x58, b1 8 (by decide)]; exact g1
  · rw [mI, T48]; exact g2
  · rw [xJ 59 (by decide), xJ 60 (by decide), xJ 61 (by decide), xJ 62 (by decide), xJ 63 (by decide), xJ 64 (by decide), s6 26 1 (by decide) i hi, s6 27 2 (by decide) i hi, s6 28 3 (by decide) i hi, s6 29 4 (by decide) i hi, s6 30 5 (by decide) i hi, s6 31 6 (by decide) i hi]
    obtain ⟨w1, w2, w3, w4, w5, w6⟩ := b2 i hi
    rw [w1, w2, w3, w4, w5, w6]
    exact n3 i hi
  · rw [xJ 65 (by decide), b3 i hi, s24 i hi]; exact n4 i hi
  · rw [s6 28 3 (by decide) i (by omega)]; exact n5 i hi
  · rw [s6 26 1 (by decide) i (by omega)]; exact hk i hi
  · rw [x58, b1 11 (by decide)]; exact hLF.le l1
  · rw [x58, b1 12 (by decide)]; exact hLF.fu l2
  · rw [xH, mI, T46]; exact hHL
  · refine NR.to r4 ?_ ?_ ((mI 50).trans T50) ((mI 51).trans T51) (fun i hi => ?_) (fun i hi => ?_) (fun i hi => ⟨s6 33 23 (by decide) i hi, s6 34 24 (by decide) i hi⟩) s12
    · rw [x80, a1, b5 76 0 (by decide)]
    · rw [x80, a2, b5 76 3 (by decide)]
    · show vJ σ2 81 i = vJ σ 77 i ∧ vJ σ2 82 i = vJ σ 78 i
      rw [(a3 i hi).1, (a3 i hi).2, b6 77 (by decide), b6 78 (by decide)]; exact ⟨rfl, rfl⟩
    · show vJ σ2 83 i = vJ σ 79 i
      rw [a4 i hi, b6 79 (by decide)]
  · rw [s6 30 5 (by decide) i hi]; exact f1 i hi
theorem op_undo {N : Nat} {σ τ : St} {t d s : Nat} {CL : List Cl} {CLs : List (List Cl)} (h : RR N σ τ t d CL CLs s) : Sm N (f_X_undo 0 σ) (f_M_undo 0 τ) := by
  obtain ⟨⟨hK, hd, hk, ⟨l1, l2, l3, l4⟩, hHL⟩, ⟨r2, r3, r4, r5, r6, r7, r8⟩, f1, f2⟩ := id h
  unfold f_X_undo f_M_undo
  rcases id r5 with ⟨z1, z2⟩ | ⟨z1, z2, t', d', CL', ⟨m1, m1b, m1c, m1d, m1e, m1f⟩, ⟨g, g0, g1, g2⟩, m3, m4, m5, m6, m7, m8, m9, m10⟩
  · rw [z1, z2, if_pos rfl, if_pos rfl]; exact sm_ret h _
  rw [z1, z2, if_neg (by decide), if_neg (by decide)]
  obtain ⟨-, -, htg, -⟩ := m9.mh (σ := σ) (τ := sI τ 0 11 (vI τ 0 46)) (r2.c rfl SX.rf rfl (fun _ _ _ => rfl)) rfl
  obtain ⟨σ1, e1, b1, b2, b3, b4, b5, b6, b7, b8⟩ := bec_49_58 (tgb_of htg)
  obtain ⟨σ2, e2, a1, a2, a3, a4, a5, a6, a7, a8⟩ := nb_76 (σ := σ1)
  obtain ⟨T1, ⟨T11, T0, T01, T02, T40, T43⟩, T2, T3⟩ := unT_f τ
  obtain ⟨τ1, q1, i1, i2, i3, i4⟩ := un6 (unT τ)
  obtain ⟨τ2, q2, j1, j2, j3, j4⟩ := un24 τ1
  obtain ⟨τ3, q3, k1, k2, k3, k4⟩ := un12 τ2
  have eM : (st (sI τ 0 11 (vI τ 0 46)) fun s3 => (st (sI s3 0 0 (vI s3 0 47)) fun s5 => (st (sI s5 0 1 (vI s5 0 48)) fun s7 => (st (sI s7 0 2 (vI s7 0 49)) fun s9 => (st (sI s9 0 40 (vI s9 0 50)) fun s11 => (st (sI s11 0 43 (vI s11 0 51)) fun s13 => ((f_M_undo_l60 FU 0 0 s13).bind fun x_48 => ((f_M_undo_l170 FU 0 0 x_48).bind fun x_57 => ((f_M_undo_l196 FU 0 0 x_57).bind fun x_66 => some ((vI x_66 0 0), x_66)))))))))) = ((f_M_undo_l60 FU 0 0 (unT τ)).bind fun a => (f_M_undo_l170 FU 0 0 a).bind fun b => (f_M_undo_l196 FU 0 0 b).bind fun c => some (vI c 0 0, c)) := rfl
  rw [eM]
  simp only [e1, e2, q1, q2, q3, Option.bind_some]
  have mI : ∀ f, vI τ3 0 f = vI (unT τ) 0 f := fun f => (k1 0 f).trans ((j1 0 f).trans (i1 0 f))
  have mI' : ∀ f, f ≠ 11 → f ≠ 0 → f ≠ 1 → f ≠ 2 → f ≠ 40 → f ≠ 43 → vI τ3 0 f = vI τ 0 f := fun f h1 h2 h3 h4 h5 h6 => (mI f).trans (T1 f h1 h2 h3 h4 h5 h6)
  have p6 : ∀ q, q ∈ P6u → (1 ≤ q.1 ∧ q.1 ≤ 6) ∨ q.1 = 23 ∨ q.1 = 24 := by decide
  have one : ∀ {a b k : Nat}, a ≠ k → ∀ q, q ∈ [(a, b)] → q.1 ≠ k := fun ha q hq => by rw [List.mem_singleton.mp hq]; exact ha
  have o6 : ∀ k, ¬ (1 ≤ k ∧ k ≤ 6) → k ≠ 23 → k ≠ 24 → ∀ q, q ∈ P6u → q.1 ≠ k := fun k c1 c2 c3 q hq => by have := p6 q hq; omega
  have mJ : ∀ k, ¬ (1 ≤ k ∧ k ≤ 7) → ¬ (23 ≤ k ∧ k ≤ 25) → vJ τ3 k = vJ τ k := fun k c1 c2 => (k3 k (one (by omega))).trans ((j3 k (one (by omega))).trans ((i3 k (o6 k (by omega) (by omega) (by omega))).trans (T2 k)))
  have mL : ∀ k, vL τ3 k = vL τ k := fun k => (k2 k).trans ((j2 k).trans ((i2 k).trans (T3 k)))
  have s6 : ∀ a b, (a, b) ∈ P6u → ∀ i, i < 6 → vJ τ3 a i = vJ τ b i := fun a b hq i hi => by
    have z := p6 _ hq
    simp only at z
    rw [k3 a (one (by omega)), j3 a (one (by omega))]
    exact (i4 _ hq i hi).trans (congrFun (T2 b) i)
  have s24 : ∀ i, i < 24 → vJ τ3 7 i = vJ τ 32 i := fun i hi => by
    rw [k3 7 (one (by decide))]
    refine (j4 (7, 32) (by decide) i hi).trans ?_
    show vJ τ1 32 i = _
    rw [i3 32 (o6 32 (by decide) (by decide) (by decide)), T2]
  have s12 : ∀ i, i < 12 → vJ τ3 25 i = vJ τ 35 i := fun i hi => by
    refine (k4 (25, 35) (by decide) i hi).trans ?_
    show vJ τ2 35 i = _
    rw [j3 35 (one (by decide)), i3 35 (o6 35 (by decide) (by decide) (by decide)), T2]
  have x49 : ∀ f, vI σ2 49 f = vI σ1 49 f := fun f => a5 49 f (by decide)
  have xJ : ∀ k, k < 77 → vJ σ2 k = vJ σ1 k := fun k hk => a6 k (by omega)
  have xH : vH σ2 49 = vH σ 58 := by rw [a8, b4]
  have hI : ∀ k f, k ≠ 49 → k ≠ 76 → vI σ2 k f = vI σ k f := fun k f c1 c2 => (a5 k f c2).trans (b5 k f c1)
  have hJ : ∀ k, ¬ (50 ≤ k ∧ k ≤ 56) → ¬ (77 ≤ k ∧ k ≤ 79) → vJ σ2 k = vJ σ k := fun k c1 c2 => (a6 k (by omega)).trans (b6 k (by omega))
  have hL : ∀ k, vL σ2 k = vL σ k := fun k => (a7 k).trans (b7 k)
  have hH : ∀ k, k ≠ 49 → vH σ2 k = vH σ k := fun k c => (a8 k).trans (b8 k c)
  have sx : ∀ {a b : Nat}, b ≤ 49 ∨ (57 ≤ a ∧ b ≤ 76) ∨ 80 ≤ a → SX a b σ σ2 := fun hb k q1 q2 => ⟨fun f => hI k f (by omega) (by omega), hJ k (by omega) (by omega), hL k, hH k (by omega)⟩
  have R2' : R2 σ2 τ3 CLs := r2.c (hI _ _ (by decide) (by decide)) (sx (by decide)) (mI' _ (by decide) (by decide) (by decide) (by decide) (by decide) (by decide)) (fun k q1 q2 => mJ k (by omega) (by omega))
  have t11 : vI τ3 0 11 = vI τ 0 46 := (mI 11).trans T11
  obtain ⟨y1, y2, y3, y4⟩ := m9.mh R2' t11
  have l1' : vI τ3 0 27 = -1 := by rw [mI' 27 (by decide) (by decide) (by decide) (by decide) (by decide) (by decide)]; exact l1
  have l2' : vI τ3 0 28 = -1 := by rw [mI' 28 (by decide) (by decide) (by decide) (by decide) (by decide) (by decide)]; exact l2
  have e0 : vI σ2 49 0 = nI t' := by rw [x49, b1 0 (by decide)]; exact m1c
  have e0' : vI τ3 0 0 = nI t' := by rw [mI, T0]; exact m1d
  refine ⟨nI t', σ2, τ3, by rw [e0], by rw [e0'], t', d', CL', CLs, s, ⟨⟨⟨m1, by omega, e0, e0', ?_, ?_⟩, ⟨g, g0, ?_, ?_⟩, fun i hi => ?_, fun i hi => ?_, fun i hi => ?_, ⟨Or.inl ⟨l1', ?_⟩, Or.inl ⟨l2', ?_⟩⟩, y1, y2, by rw [xH]; exact y3, by rw [xH]; exact y4⟩, m1b, fun i hi => ?_, ⟨l1', l2', ?_, ?_⟩, ?_⟩, ⟨R2', r3.c (hI _ _ (by decide) (by decide)) (hJ _ (by decide) (by decide)) (mI' _ (by decide) (by decide) (by decide) (by decide) (by decide) (by decide)) (mJ _ (by decide) (by decide)), ?_, r5.c (hI _ _ (by decide) (by decide)) (sx (by decide)) (sx (by decide)) (fun f q1 q2 => mI' f (by omega) (by omega) (by omega) (by omega) (by omega) (by omega)) (fun k q1 q2 => mJ k (by omega) (by omega)), r6.c (sx (by decide)) (mJ _ (by decide) (by decide)) (mJ _ (by decide) (by decide)) (mL _), r7.c (hI _ _ (by decide) (by decide)) (hJ _ (by decide) (by decide)) (mI' _ (by decide) (by decide) (by decide) (by decide) (by decide) (by decide)) (mJ _ (by decide) (by decide)), r8.c (mJ _ (by decide) (by decide))⟩, fun i hi => ?_, fun i hi => ?_⟩
  · rw [x49, b1 9 (by decide)]; exact m1e
  · rw [mI, T02]; exact m1f
  · rw [x49, b1 8 (by decide)]; exact g1
  · rw [mI, T01]; exact g2
  · show vJ σ2 50 i = _ ∧ vJ σ2 51 i = _ ∧ vJ σ2 52 i = _ ∧ vJ σ2 53 i = _ ∧ vJ σ2 54 i = _ ∧ vJ σ2 55 i = _
    rw [xJ 50 (by decide), xJ 51 (by decide), xJ 52 (by decide), xJ 53 (by decide), xJ 54 (by decide), xJ 55 (by decide), s6 1 26 (by decide) i hi, s6 2 27 (by decide) i hi, s6 3 28 (by decide) i hi, s6 4 29 (by decide) i hi, s6 5 30 (by decide) i hi, s6 6 31 (by decide) i hi]
    obtain ⟨w1, w2, w3, w4, w5, w6⟩ := b2 i hi
    rw [w1, w2, w3, w4, w5, w6]
    exact m3 i hi
  · show vJ σ2 56 i = _
    rw [xJ 56 (by decide), b3 i hi, s24 i hi]; exact m4 i hi
  · rw [s6 3 28 (by decide) i (by omega)]; exact m5 i hi
  · rw [x49, b1 11 (by decide)]; exact m7
  · rw [x49, b1 12 (by decide)]; exact m8
  · rw [s6 1 26 (by decide) i (by omega)]; exact m6 i hi
  · rw [mI' 31 (by decide) (by decide) (by decide) (by decide) (by decide) (by decide)]; exact l3
  · rw [mI' 32 (by decide) (by decide) (by decide) (by decide) (by decide) (by decide)]; exact l4
  · rw [xH, t11]; exact m9
  · refine NR.to m10 ?_ ?_ ((mI 40).trans T40) ((mI 43).trans T43) (fun i hi => ?_) (fun i hi => ?_) (fun i hi => ⟨s6 23 33 (by decide) i hi, s6 24 34 (by decide) i hi⟩) s12
    · rw [a1, b5 80 0 (by decide)]
    · rw [a2, b5 80 3 (by decide)]
    · show vJ σ2 77 i = vJ σ 81 i ∧ vJ σ2 78 i = vJ σ 82 i
      rw [(a3 i hi).1, (a3 i hi).2, b6 81 (by decide), b6 82 (by decide)]; exact ⟨rfl, rfl⟩
    · show vJ σ2 79 i = vJ σ 83 i
      rw [a4 i hi, b6 83 (by decide)]
  · rw [s6 5 30 (by decide) i hi]; exact f2 i hi
  · rw [mJ 30 (by decide) (by decide)]; exact f2 i hi

/-! ===== options: how the functions are read off the code ===== -/
def ok (i : Int32) (n : Nat) : Bool := decide (0 ≤ i.toInt) && decide (i.toInt < n)
theorem ok_iff {i : Int32} {n : Nat} : ok i n = true ↔ 0 ≤ i.toInt ∧ i.toInt < n := by simp [ok]
theorem ok_in {i : Int32} {n : Nat} (h : ok i n = true) : vp_in i n := vp_in_iff.mpr (ok_iff.mp h)
theorem bnd {α β : Type} {G : Prop} {x : Option α} {f : α → Option β} {b : β} (h : x.bind f = some b) (k : ∀ a, x = some a → f a = some b → G) : G := by
  cases x with
  | none => cases h
  | some a => exact k a rfl h
theorem gde {β : Type} {G : Prop} {b : Bool} {A : Option β} {t : β} (h : (if b = true then A else none) = some t) (k : b = true → A = some t → G) : G := by
  by_cases hb : b = true
  · rw [if_pos hb] at h; exact k hb h
  · rw [if_neg hb] at h; cases h
theorem gdz {β : Type} {G : Prop} {b : Int32} {A : Option β} {t : β} (h : (if b = 0 then none else A) = some t) (k : ¬ b = 0 → A = some t → G) : G := by
  by_cases hb : b = 0
  · rw [if_pos hb] at h; cases h
  · rw [if_neg hb] at h; exact k hb h
/-- a boolean as the machine has it -/
def b2i (b : Bool) : Int32 := if b then 1 else 0
theorem b2i_0 {b : Bool} : b2i b = 0 ↔ b = false := by cases b <;> decide
theorem b2i_n {b : Bool} : narrow .boolean (.int (b2i b)) = .int (b2i b) := by cases b <;> decide
def rmL (n : Nat) : Room := { frames := n, cells := 0, slots := 0, locals := 64 * n }
/-! ===== the worlds: cells by number; what the cell of a number holds, by its tag ===== -/
/-- fields of whole numbers, by cell and place; rows of ints, of longs, by cell; which cell a field that moves refers to -/
abbrev St : Type := (Nat → Nat → Int32) × (Nat → Nat → Int32) × (Nat → Nat → Int64) × (Nat → Nat)
def vI (σ : St) (c f : Nat) : Int32 := σ.1 c f
def vJ (σ : St) (c : Nat) : Nat → Int32 := σ.2.1 c
def vL (σ : St) (c : Nat) : Nat → Int64 := σ.2.2.1 c
def vH (σ : St) (c : Nat) : Nat := σ.2.2.2 c
def up1 {α : Type} (f : Nat → α) (c : Nat) (v : α) : Nat → α := fun a => if a = c then v else f a
def sI (σ : St) (c f : Nat) (v : Int32) : St := (up1 σ.1 c (up1 (σ.1 c) f v), σ.2)
def sJ (σ : St) (c : Nat) (h : Nat → Int32) : St := (σ.1, up1 σ.2.1 c h, σ.2.2)
def sL (σ : St) (c : Nat) (h : Nat → Int64) : St := (σ.1, σ.2.1, up1 σ.2.2.1 c h, σ.2.2.2)
def sH (σ : St) (c : Nat) (t : Nat) : St := (σ.1, σ.2.1, σ.2.2.1, up1 σ.2.2.2 c t)
/-- where classes are, where cells are (from 1000 on: the texts; their rows from 2000 on; 3000: the row of kinds above), the classes of rows -/
abbrev GX : Type := va_G × (Nat → Nat) × (Nat → ClassId)
/-- tags of cells, how many cells, whether the statics are wanted -/
abbrev WT : Type := (Nat → Nat) × Nat × Nat
abbrev tyW (g : GX) : List (ClassId × FieldType) := [(g.2.2 0, .int), (g.2.2 1, .byte), (g.2.2 2, .long), (g.2.2 3, .boolean), (g.2.2 4, .object "LittleLeft$Rule"), (g.2.2 5, .object "LittleLeft$Tape")]
/-- what the cell c holds, by its tag, its numbers, its rows, its reference -/
def eV (g : GX) (c t : Nat) (I J : Nat → Int32) (L : Nat → Int64) (h : Nat) : va_E := match t with
  | 0 => .inr (6, [.ref (g.2.1 1), .ref (g.2.1 49), .ref (g.2.1 58), .ref (g.2.1 67), .ref (g.2.1 76), .ref (g.2.1 80), .int (I 6), .ref (g.2.1 84), .ref (g.2.1 86), .int (I 9), .ref (g.2.1 87), .ref (g.2.1 88), .ref (g.2.1 89), .ref (g.2.1 91)])
  | 1 => .inr (4, [.int (I 0), .ref (g.2.1 (c + 1)), .ref (g.2.1 (c + 2)), .ref (g.2.1 (c + 3)), .ref (g.2.1 (c + 4)), .ref (g.2.1 (c + 5)), .int (I 6), .int (I 7), .int (I 8)])
  | 4 => .inr (1, [.int (I 0), .ref (g.2.1 (c + 1)), .ref (g.2.1 (c + 2)), .ref (g.2.1 (c + 3)), .ref (g.2.1 (c + 4)), .ref (g.2.1 (c + 5)), .ref (g.2.1 (c + 6)), .ref (g.2.1 (c + 7)), .int (I 8), .int (I 9), .ref (g.2.1 h), .int (I 11), .int (I 12), .int (I 13), .ref (g.2.1 (c + 8))])
  | 7 => .inr (2, [.int (I 0), .ref (g.2.1 (c + 1)), .ref (g.2.1 (c + 2)), .int (I 3), .ref (g.2.1 (c + 3))])
  | 9 => .inr (3, [.ref (g.2.1 (c + 1)), .int (I 1), .int (I 2), .ref (g.2.1 h)])
  | 13 => .inr (0, [.ref (g.2.1 (c + 1)), .int (I 1), .int (I 2), .int (I 3), .int (I 4)])
  | 16 => .inr (5, [.int (I 0), .int (I 1), .ref (g.2.1 (c + 1))])
  | 20 => .inr (7, [.int (I 0), .int (I 1), .int (I 2), .ref (g.2.1 1), .ref (g.2.1 2), .ref (g.2.1 3), .ref (g.2.1 4), .ref (g.2.1 5), .ref (g.2.1 6), .ref (g.2.1 7), .int (I 10), .int (I 11), .int (I 12), .int (I 13), .int (I 14), .ref (g.2.1 8), .ref (g.2.1 9), .ref (g.2.1 10), .ref (g.2.1 11), .ref (g.2.1 12), .ref (g.2.1 13), .ref (g.2.1 14), .ref (g.2.1 15), .int (I 23), .int (I 24), .int (I 25), .ref (g.2.1 16), .int (I 27), .int (I 28), .ref (g.2.1 17), .int (I 30), .int (I 31), .int (I 32), .int (I 33), .int (I 34), .ref (g.2.1 18), .ref (g.2.1 19), .ref (g.2.1 20), .ref (g.2.1 21), .ref (g.2.1 22), .int (I 40), .ref (g.2.1 23), .ref (g.2.1 24), .int (I 43), .ref (g.2.1 25), .int (I 45), .int (I 46), .int (I 47), .int (I 48), .int (I 49), .int (I 50), .int (I 51), .ref (g.2.1 26), .ref (g.2.1 27), .ref (g.2.1 28), .ref (g.2.1 29), .ref (g.2.1 30), .ref (g.2.1 31), .ref (g.2.1 32), .ref (g.2.1 33), .ref (g.2.1 34), .ref (g.2.1 35), .int (I 62), .ref (g.2.1 36), .ref (g.2.1 37), .ref (g.2.1 38), .ref (g.2.1 39), .ref (g.2.1 40)])
  | t => if t < 1000 then .inl (g.2.2 0, t - 100, .inl J) else if t < 2000 then .inl (g.2.2 1, t - 1000, .inl J) else if t < 3000 then .inl (g.2.2 2, t - 2000, .inr (.inl L)) else if t < 4000 then .inl (g.2.2 3, t - 3000, .inl J) else if t = 4000 then .inl (g.2.2 4, 6, .inr (.inr (.inr (.inr (fun i => some (g.2.1 (7 + 6 * i))))))) else .inl (g.2.2 5, 6, .inr (.inr (.inr (.inr (fun i => some (g.2.1 (92 + 2 * i)))))))
def tagsX : List Nat := [0, 1, 110, 110, 110, 110, 200, 1, 110, 110, 110, 110, 200, 1, 110, 110, 110, 110, 200, 1, 110, 110, 110, 110, 200, 1, 110, 110, 110, 110, 200, 1, 110, 110, 110, 110, 200, 1, 110, 110, 110, 110, 200, 1, 110, 110, 110, 110, 200, 4, 106, 106, 106, 106, 106, 106, 124, 106, 4, 106, 106, 106, 106, 106, 106, 124, 106, 4, 106, 106, 106, 106, 106, 106, 124, 106, 7, 106, 106, 112, 7, 106, 106, 112, 9, 1100, 4000, 105, 105, 13, 120, 4001, 16, 2060, 16, 2060, 16, 2060, 16, 2060, 16, 2060, 16, 2060]
def tagsM : List Nat := [20, 106, 106, 106, 106, 106, 106, 124, 200, 106, 160, 160, 160, 160, 700, 201, 116, 3100, 106, 106, 106, 105, 105, 106, 106, 112, 106, 106, 106, 106, 106, 106, 124, 106, 106, 112, 120, 106, 106, 2360, 2060]
def BX : WT := (fun c => tagsX.getD c 50, 104, 1)
def BM : WT := (fun c => tagsM.getD c 50, 41, 0)
/-- a cell of a tag -/
def tg (B : WT) (c t : Nat) : Prop := c < B.2.1 ∧ B.1 c = t
def eW (g : GX) (σ : St) (c t : Nat) : va_E := eV g c t (σ.1 c) (σ.2.1 c) (σ.2.2.1 c) (σ.2.2.2 c)
def wW (B : WT) (g : GX) (σ : St) : va_W := (List.range B.2.1).map (fun c => (g.2.1 c, eW g σ c (B.1 c)))
theorem wW_get {B : WT} {g : GX} {σ : St} {c : Nat} (h : c < B.2.1) : (wW B g σ)[c]? = some (g.2.1 c, eW g σ c (B.1 c)) := by
  unfold wW
  rw [List.getElem?_map, List.getElem?_range h]
  rfl
theorem wW_none {B : WT} {g : GX} {σ : St} {c : Nat} (h : ¬ c < B.2.1) : (wW B g σ)[c]? = none := by
  apply List.getElem?_eq_none
  unfold wW
  rw [List.length_map, List.length_range]
  omega
theorem wW_set {B : WT} {g : GX} {σ σ' : St} {c0 : Nat} (h : ∀ k, k ≠ c0 → σ.1 k = σ'.1 k ∧ σ.2.1 k = σ'.2.1 k ∧ σ.2.2.1 k = σ'.2.2.1 k ∧ σ.2.2.2 k = σ'.2.2.2 k) : (wW B g σ).set c0 (g.2.1 c0, eW g σ' c0 (B.1 c0)) = wW B g σ' := by
  apply List.ext_getElem?
  intro i
  rw [List.getElem?_set]
  by_cases hi : c0 = i
  · subst hi
    rw [if_pos rfl]
    by_cases hl : c0 < B.2.1
    · rw [wW_get hl, if_pos (by unfold wW; rw [List.length_map, List.length_range]; exact hl)]
    · rw [wW_none hl, if_neg (by unfold wW; rw [List.length_map, List.length_range]; exact hl)]
  · rw [if_neg hi]
    by_cases hl : i < B.2.1
    · rw [wW_get hl, wW_get hl]
      obtain ⟨h1, h2, h3, h4⟩ := h i (fun e => hi e.symm)
      unfold eW
      rw [h1, h2, h3, h4]
    · rw [wW_none hl, wW_none hl]
theorem up1_s {α : Type} {f : Nat → α} {c : Nat} {v : α} : up1 f c v c = v := if_pos rfl
theorem up1_n {α : Type} {f : Nat → α} {c k : Nat} {v : α} (h : k ≠ c) : up1 f c v k = f k := if_neg h
theorem wW_sI {B : WT} {g : GX} {σ : St} {c f : Nat} {v : Int32} {e : va_E} (he : eV g c (B.1 c) (up1 (σ.1 c) f v) (σ.2.1 c) (σ.2.2.1 c) (σ.2.2.2 c) = e) : (wW B g σ).set c (g.2.1 c, e) = wW B g (sI σ c f v) := by
  rw [← wW_set (σ := σ) (σ' := sI σ c f v) (c0 := c) (fun k hk => ⟨(up1_n hk).symm, rfl, rfl, rfl⟩), ← he]
  show _ = List.set _ c (g.2.1 c, eV g c (B.1 c) (up1 σ.1 c (up1 (σ.1 c) f v) c) (σ.2.1 c) (σ.2.2.1 c) (σ.2.2.2 c))
  rw [up1_s]
theorem wW_sJ {B : WT} {g : GX} {σ : St} {c : Nat} {h : Nat → Int32} {e : va_E} (he : eV g c (B.1 c) (σ.1 c) h (σ.2.2.1 c) (σ.2.2.2 c) = e) : (wW B g σ).set c (g.2.1 c, e) = wW B g (sJ σ c h) := by
  rw [← wW_set (σ := σ) (σ' := sJ σ c h) (c0 := c) (fun k hk => ⟨rfl, (up1_n hk).symm, rfl, rfl⟩), ← he]
  show _ = List.set _ c (g.2.1 c, eV g c (B.1 c) (σ.1 c) (up1 σ.2.1 c h c) (σ.2.2.1 c) (σ.2.2.2 c))
  rw [up1_s]
theorem wW_sL {B : WT} {g : GX} {σ : St} {c : Nat} {h : Nat → Int64} {e : va_E} (he : eV g c (B.1 c) (σ.1 c) (σ.2.1 c) h (σ.2.2.2 c) = e) : (wW B g σ).set c (g.2.1 c, e) = wW B g (sL σ c h) := by
  rw [← wW_set (σ := σ) (σ' := sL σ c h) (c0 := c) (fun k hk => ⟨rfl, rfl, (up1_n hk).symm, rfl⟩), ← he]
  show _ = List.set _ c (g.2.1 c, eV g c (B.1 c) (σ.1 c) (σ.2.1 c) (up1 σ.2.2.1 c h c) (σ.2.2.2 c))
  rw [up1_s]
theorem wW_sH {B : WT} {g : GX} {σ : St} {c t : Nat} {e : va_E} (he : eV g c (B.1 c) (σ.1 c) (σ.2.1 c) (σ.2.2.1 c) t = e) : (wW B g σ).set c (g.2.1 c, e) = wW B g (sH σ c t) := by
  rw [← wW_set (σ := σ) (σ' := sH σ c t) (c0 := c) (fun k hk => ⟨rfl, rfl, rfl, (up1_n hk).symm⟩), ← he]
  show _ = List.set _ c (g.2.1 c, eV g c (B.1 c) (σ.1 c) (σ.2.1 c) (σ.2.2.1 c) (up1 σ.2.2.2 c t c))
  rw [up1_s]
/-! ===== what stands outside the worlds: texts, statics, links among nest mates ===== -/
def lenS : List Nat := [6, 5, 6, 5, 4]
def bytS : List (List Int32) := [[112, 107, 118, 103, 100, 102], [119, 97, 110, 116, 32], [108, 101, 97, 115, 116, 32], [102, 117, 108, 108, 32], [112, 97, 121, 32]]
def refS : List (String × Nat × String × Nat) := [("LittleLeft$Kitchen", 48, "pkvgdf", 0), ("LittleLeft$Reader", 97, "pkvgdf", 0), ("LittleLeft$Reader", 44, "want ", 1), ("LittleLeft$Reader", 59, "least ", 2), ("LittleLeft$Reader", 61, "full ", 3), ("LittleLeft$Reader", 63, "pay ", 4)]
def nestS : List (String × Nat × MethodName × String) := [("LittleLeft", 11, ⟨"LittleLeft$Rule", "<init>", "()V"⟩, "LittleLeft"), ("LittleLeft", 35, ⟨"LittleLeft$Notes", "<init>", "()V"⟩, "LittleLeft"), ("LittleLeft", 49, ⟨"LittleLeft$Reader", "<init>", "()V"⟩, "LittleLeft"), ("LittleLeft$Reader", 24, ⟨"LittleLeft$Rule", "<init>", "()V"⟩, "LittleLeft"), ("LittleLeft", 71, ⟨"LittleLeft$Acts", "<init>", "()V"⟩, "LittleLeft"), ("LittleLeft", 82, ⟨"LittleLeft$Tape", "<init>", "()V"⟩, "LittleLeft"), ("LittleLeft$Kitchen", 115, ⟨"LittleLeft", "sum", "([II)I"⟩, "LittleLeft")]
def kAbove (j : Nat) : Int32 := ([-1, 0, 0, 0, 1, 2, 3] : List Int32).getD j 0
def E0 (g : GX) (A : Nat → Prop) (U : State) (H : Heap) : Prop :=
  (∀ q ∈ nestS, va_Nw (.methodLinkNest q.1 q.2.1 q.2.2.1 q.2.2.2) U) ∧ (∀ q ∈ refS, vk_R q.1 q.2.1 q.2.2.1 (g.2.1 (1000 + q.2.2.2)) U) ∧
  vk_S 5 lenS bytS (fun i => g.2.1 (1000 + i)) (fun i => g.2.1 (2000 + i)) A U H ∧ va_Z "java/lang/String" "COMPACT_STRINGS" "Z" (.int 1) A U H ∧ va_Zq "jdk/internal/util/Preconditions" "SIOOBE_FORMATTER" "Ljava/util/function/BiFunction;" A U H ∧
  va_Z "LittleLeft" "KIND_ABOVE" "[I" (.ref (g.2.1 3000)) A U H ∧ va_T .int (g.2.1 3000) 7 (fun j => .int (kAbove j)) A U H
theorem E0.frame {g : GX} {A : Nat → Prop} {U V : State} {H : Heap} (hv : V.vm = U.vm) (h : E0 g A U H) : E0 g A V H := by
  obtain ⟨h1, h2, h3, h4, h5, h6, h7⟩ := h
  have hal : U.vm.Alike V.vm := by rw [hv]; exact Vm.Alike.refl _
  exact ⟨fun q hq => va_Nw.same rfl hv.symm (h1 q hq), fun q hq => vk_R.same hv (h2 q hq), h3.moved hal, h4.moved hal, h5.moved hal, h6.moved hal, h7.moved hal⟩
theorem E0.call {g : GX} {A A1 : Nat → Prop} {s U : State} {H : Heap} {locs : List Loc} (h : E0 g A s s.heap) (hS : va_S A s.heap H locs) (hA : ∀ q, A1 q → A q) (hU : U.heap = H) (hW : s.WarmedH U.vm) : E0 g A1 U U.heap := by
  obtain ⟨h1, h2, h3, h4, h5, h6, h7⟩ := h
  rw [hU]
  exact ⟨fun q hq => va_Nw.warmM hW (h1 q hq), fun q hq => vk_R.warm hW (h2 q hq), ((h3.kept hS.2.1).narrow hA).moved hW.alike, ((h4.kept hS.2.1).narrow hA).moved hW.alike, ((h5.kept hS.2.1).narrow hA).moved hW.alike, ((h6.kept hS.2.1).narrow hA).moved hW.alike, ((h7.kept hS.2.1).narrow hA).moved hW.alike⟩
def EX (B : WT) (g : GX) (A : Nat → Prop) (U : State) (H : Heap) : Prop := B.2.2 = 1 → E0 g A U H
/-! ===== contracts over a whole world ===== -/
def HW (B : WT) (g : GX) (A : Nat → Prop) (s : State) (σ : St) (H : Heap) (locs : List Loc) : Prop := va_P g.1 vwCl (wW B g σ) H ∧ va_D A (wW B g σ) ∧ va_S A s.heap H locs
def BW (B : WT) (g : GX) (σ : St) (sz : Nat) (U : State) : Prop := U.heap.size = sz ∧ va_P g.1 vwCl (wW B g σ) U.heap ∧ va_K g.1 vwCl (tyW g) U ∧ va_D (fun _ => True) (wW B g σ) ∧ EX B g (va_A (wW B g σ) sz) U U.heap
def atW (B : WT) (g : GX) (A : Nat → Prop) (u : St) (t : State) : Prop := va_P g.1 vwCl (wW B g u) t.heap ∧ va_K g.1 vwCl (tyW g) t ∧ va_D A (wW B g u)
abbrev QT : Type := (Nat → Prop) → Array Value → State → Outcome → State → Prop
def QI (B : WT) (g : GX) (q : Int32 × St) : QT := fun A => va_Qi (fun r u => r = q.1 ∧ u = q.2) (atW B g A) A
def QZ (B : WT) (g : GX) (q : Bool × St) : QT := fun A => va_Qi (fun r u => r = b2i q.1 ∧ u = q.2) (atW B g A) A
def QL (B : WT) (g : GX) (q : Int64 × St) : QT := fun A => va_Ql (fun r u => r = q.1 ∧ u = q.2) (atW B g A) A
def QV (B : WT) (g : GX) (q : St) : QT := fun A => va_Qv (fun u => u = q) (atW B g A) A
def QR (B : WT) (g : GX) (q : Nat × St) : QT := fun A => va_Qr (fun u : St => u = q.2) (fun u a t => a = g.2.1 q.1 ∧ atW B g A u t) A
def CT (B : WT) (l : Launch) (y : MethodName) (ws : List Cond) (lv : Nat) (av : List Value) (g : GX) (σ : St) (Q : QT) : Prop :=
  ∀ sz : Nat, Met l y ws (rmL lv) (va_Pc av (BW B g σ sz)) (Q (va_A (wW B g σ) sz)) 0 0 (va_A (wW B g σ) sz)
def CX (B : WT) (g : GX) (A : Nat → Prop) (own : String) (cc : ByteArray) (ret : Option FieldType) (nL : Nat) (p : Program) (s : State) (m : MethodId) (args : Array Value) (meth : Method) (c : Code) : Prop :=
  p.tables.exec = Jvm.exec ∧ c.code = cc ∧ meth.sig.returnType = ret ∧ c.maxLocals = nL ∧ s.vm.findClass own = some m.cls ∧ (∀ w ∈ lwG, w.before args s = true) ∧ va_K g.1 vwCl (tyW g) s ∧ EX B g A s s.heap ∧ (∀ q, s.heap.size ≤ q → A q) ∧ meth.locks = false
theorem mkC {l : Launch} {B : WT} {own : String} {y : MethodName} {cc : ByteArray} {maxL lv : Nat} {ret : Option FieldType} {ws : List Cond} {av : List Value} {g : GX} {σ : St} {Qy : QT} (hw : ws = Cond.code y cc maxL ret :: lwG) (hy : plainName y.cls = true) (ho : y.cls = own) (hn : (lg_sl av).length ≤ maxL)
    (body : ∀ (p : Program) (e : Env) (s : State) (m : MethodId) (args : Array Value) (below : List Frame) (meth : Method) (c : Code) (A : Nat → Prop) (ls : Array Slot), CX B g A own cc ret maxL p s m args meth c → lv_has ls maxL (lv_args 0 av) → HW B g A s σ s.heap [] → W p l e (rmL lv) s m args below meth c s.heap [] 0 0 (MQ below (Qy A) args s 0 0 A) (F0 m 0 ls [])) : CT B l y ws lv av g σ Qy := by
  intro sz
  refine Met.ofW (cc := cc) (maxL := maxL) (ret := ret) hy hw ?_
  intro p e s m args below meth c s₁ Bd hml hv
  obtain ⟨rfl, hsz, hP, hK, hD0, hE⟩ := hv
  have hts := atoms_spec (ws := ws) Bd.pre
  have hown : s.vm.findClass own = some m.cls := by rw [← ho]; exact findClass_of_methodNamed Bd.named
  subst hsz
  rw [lg_entry_eq]
  exact body p e s m av.toArray below meth c (va_A (wW B g σ) s.heap.size) _ ⟨Bd.exec, Bd.bytes, Bd.returns, hml, hown, fun w h => hts w (by rw [hw]; exact List.mem_cons_of_mem _ h), hK, hE, fun q h => Or.inr h, Bd.notSynchronized⟩ (lv_entry av hn) ⟨hP, hD0.self, va_S.rf⟩
def st {α : Type} (s : St) (k : St → Option α) : Option α := k s
theorem ste {α : Type} {G : Prop} {s : St} {k : St → Option α} {q : α} (h : st s k = some q) (kk : ∀ s1, s1 = s → k s1 = some q → G) : G := kk s rfl h
theorem ifp {c : Prop} {inst : Decidable c} {α : Type} {a b r : α} (hc : c) (h : (if c then a else b) = r) : a = r := by rw [if_pos hc] at h; exact h
theorem ifn {c : Prop} {inst : Decidable c} {α : Type} {a b r : α} (hc : ¬ c) (h : (if c then a else b) = r) : b = r := by rw [if_neg hc] at h; exact h
theorem sel {α β γ : Type} {f : α → γ} {k : β → γ} {y : α} {r : γ} (h : Sum.elim f k (.inl y) = r) : f y = r := h
theorem ser {α β γ : Type} {f : α → γ} {k : β → γ} {y : β} {r : γ} (h : Sum.elim f k (.inr y) = r) : k y = r := h
theorem HWe {B : WT} {g : GX} {A : Nat → Prop} {s : State} {σ τ : St} {H : Heap} {locs : List Loc} (h : HW B g A s σ H locs) (e : τ = σ) : HW B g A s τ H locs := by rw [e]; exact h
/-- how far a loop is followed -/
def FU : Nat := 1000
section ROWS
variable {B : WT} {g : GX} {A : Nat → Prop} {own : String} {cc : ByteArray} {ret : Option FieldType} {nL : Nat} {p : Program} {l : Launch} {e : Env} {R : Room} {s : State} {m : MethodId} {args : Array Value} {below : List Frame} {meth : Method} {c : Code} {H : Heap} {locs : List Loc} {cells slots : Nat} {Q : State → Prop} {pc : Nat} {ls : Array Slot} {rest : List Value} {σ : St}
theorem retI {v : Int32} {q : Int32 × St} (C : CX B g A own cc ret nL p s m args meth c) (hw : HW B g A s σ H locs) (hr : ret = some .int) (hq : (v, σ) = q) (hdg : decode cc pc = .ok (.ireturn, 1)) : W p l e R s m args below meth c H locs 0 0 (MQ below (QI B g q A) args s 0 0 A) (F0 m pc ls [.int v]) := by
  obtain ⟨hx, hb, hrt, -, -, -, hK, -, -, hlk⟩ := C
  obtain ⟨hP, hD, hS⟩ := hw
  subst hq
  exact W.iret hx hb (by rw [hrt, hr]) (fun t ht hW => ⟨⟨v, σ, rfl, ⟨rfl, rfl⟩, by rw [ht]; exact hP, va_K.moved hW.alike hK, hD⟩, hS.F ht⟩) hS.2.2 hdg hlk
theorem retZ {v : Int32} {b : Bool} {q : Bool × St} (C : CX B g A own cc ret nL p s m args meth c) (hw : HW B g A s σ H locs) (hr : ret = some .boolean) (hv : v = b2i b) (hq : (b, σ) = q) (hdg : decode cc pc = .ok (.ireturn, 1)) : W p l e R s m args below meth c H locs 0 0 (MQ below (QZ B g q A) args s 0 0 A) (F0 m pc ls [.int v]) := by
  obtain ⟨hx, hb, hrt, -, -, -, hK, -, -, hlk⟩ := C
  obtain ⟨hP, hD, hS⟩ := hw
  subst hq
  subst hv
  exact W.zret hx hb (by rw [hrt, hr]) b2i_n (fun t ht hW => ⟨⟨b2i b, σ, rfl, ⟨rfl, rfl⟩, by rw [ht]; exact hP, va_K.moved hW.alike hK, hD⟩, hS.F ht⟩) hS.2.2 hdg hlk
theorem retL {v : Int64} {q : Int64 × St} (C : CX B g A own cc ret nL p s m args meth c) (hw : HW B g A s σ H locs) (hr : ret = some .long) (hq : (v, σ) = q) (hdg : decode cc pc = .ok (.lreturn, 1)) : W p l e R s m args below meth c H locs 0 0 (MQ below (QL B g q A) args s 0 0 A) (F0 m pc ls [.long v]) := by
  obtain ⟨hx, hb, hrt, -, -, -, hK, -, -, hlk⟩ := C
  obtain ⟨hP, hD, hS⟩ := hw
  subst hq
  exact W.lret hx hb (by rw [hrt, hr]) (fun t ht hW => ⟨⟨v, σ, rfl, ⟨rfl, rfl⟩, by rw [ht]; exact hP, va_K.moved hW.alike hK, hD⟩, hS.F ht⟩) hS.2.2 hdg hlk
theorem retV {q : St} (C : CX B g A own cc ret nL p s m args meth c) (hw : HW B g A s σ H locs) (hr : ret = none) (hq : σ = q) (hdg : decode cc pc = .ok (.return_, 1)) : W p l e R s m args below meth c H locs 0 0 (MQ below (QV B g q A) args s 0 0 A) (F0 m pc ls []) := by
  obtain ⟨hx, hb, hrt, -, -, -, hK, -, -, hlk⟩ := C
  obtain ⟨hP, hD, hS⟩ := hw
  subst hq
  exact W.vret hx hb (by rw [hrt, hr]) (fun t ht hW => ⟨⟨σ, rfl, rfl, by rw [ht]; exact hP, va_K.moved hW.alike hK, hD⟩, hS.F ht⟩) hS.2.2 hdg hlk
theorem retR {v : Nat} {rt : FieldType} {q : Nat × St} (C : CX B g A own cc ret nL p s m args meth c) (hw : HW B g A s σ H locs) (hr : ret = some rt) (hrt2 : (∃ n, rt = .object n) ∨ ∃ t, rt = .array t) (hq : (v, σ) = q) (hdg : decode cc pc = .ok (.areturn, 1)) : W p l e R s m args below meth c H locs 0 0 (MQ below (QR B g q A) args s 0 0 A) (F0 m pc ls [.ref (g.2.1 v)]) := by
  obtain ⟨hx, hb, hrt, -, -, -, hK, -, -, hlk⟩ := C
  obtain ⟨hP, hD, hS⟩ := hw
  subst hq
  exact W.aret hx hb (by rw [hrt, hr]) hrt2 (Or.inr ⟨_, rfl⟩) (fun t ht hW => ⟨⟨σ, g.2.1 v, rfl, rfl, rfl, by rw [ht]; exact hP, va_K.moved hW.alike hK, hD⟩, hS.F ht⟩) hS.2.2 hdg hlk
theorem freeW (C : CX B g A own cc ret nL p s m args meth c) (hw : HW B g A s σ H locs) : ∀ q, va_A (wW B g σ) H.size q → A q := by
  rintro q (⟨k, e, h⟩ | h)
  · exact hw.2.1.2 k _ h
  · exact C.2.2.2.2.2.2.2.2.1 q (Nat.le_trans hw.2.2.1 h)
theorem clI {q : Int32 × St} {st0 : List Value} {a : Array Value} (C : CX B g A own cc ret nL p s m args meth c) (hw : HW B g A s σ H locs) (hr : va_Run p l e R s m args below meth c H locs cells slots 0 0 (F0 m pc ls st0) rest (QI B g q (va_A (wW B g σ) H.size) a) (va_A (wW B g σ) H.size))
    (kk : ∀ (H1 : Heap) (locs1 : List Loc), HW B g A s q.2 H1 locs1 → W p l e R s m args below meth c H1 locs1 cells slots Q (F0 m (pc + 3) ls (.int q.1 :: rest))) : W p l e R s m args below meth c H locs cells slots Q (F0 m pc ls st0) := by
  have hF := freeW C hw
  refine va_calli hr hw.2.2 (fun q _ h => hF q h) hF (fun r u t H1 locs1 ht hvm hp hB hz hk hS => ?_)
  obtain ⟨rfl, rfl⟩ := hp
  obtain ⟨hP1, -, hD1⟩ := hB
  rw [ht] at hP1
  exact kk H1 locs1 ⟨hP1, hD1.weaken (fun _ _ _ h => hF _ h), hS⟩
theorem clZ {q : Bool × St} {st0 : List Value} {a : Array Value} (C : CX B g A own cc ret nL p s m args meth c) (hw : HW B g A s σ H locs) (hr : va_Run p l e R s m args below meth c H locs cells slots 0 0 (F0 m pc ls st0) rest (QZ B g q (va_A (wW B g σ) H.size) a) (va_A (wW B g σ) H.size))
    (kk : ∀ (H1 : Heap) (locs1 : List Loc), HW B g A s q.2 H1 locs1 → W p l e R s m args below meth c H1 locs1 cells slots Q (F0 m (pc + 3) ls (.int (b2i q.1) :: rest))) : W p l e R s m args below meth c H locs cells slots Q (F0 m pc ls st0) := by
  have hF := freeW C hw
  refine va_calli hr hw.2.2 (fun q _ h => hF q h) hF (fun r u t H1 locs1 ht hvm hp hB hz hk hS => ?_)
  obtain ⟨rfl, rfl⟩ := hp
  obtain ⟨hP1, -, hD1⟩ := hB
  rw [ht] at hP1
  exact kk H1 locs1 ⟨hP1, hD1.weaken (fun _ _ _ h => hF _ h), hS⟩
theorem clL {q : Int64 × St} {st0 : List Value} {a : Array Value} (C : CX B g A own cc ret nL p s m args meth c) (hw : HW B g A s σ H locs) (hr : va_Run p l e R s m args below meth c H locs cells slots 0 0 (F0 m pc ls st0) rest (QL B g q (va_A (wW B g σ) H.size) a) (va_A (wW B g σ) H.size))
    (kk : ∀ (H1 : Heap) (locs1 : List Loc), HW B g A s q.2 H1 locs1 → W p l e R s m args below meth c H1 locs1 cells slots Q (F0 m (pc + 3) ls (.long q.1 :: rest))) : W p l e R s m args below meth c H locs cells slots Q (F0 m pc ls st0) := by
  have hF := freeW C hw
  refine va_calll hr hw.2.2 (fun q _ h => hF q h) hF (fun r u t H1 locs1 ht hvm hp hB hz hk hS => ?_)
  obtain ⟨rfl, rfl⟩ := hp
  obtain ⟨hP1, -, hD1⟩ := hB
  rw [ht] at hP1
  exact kk H1 locs1 ⟨hP1, hD1.weaken (fun _ _ _ h => hF _ h), hS⟩
theorem clV {q : St} {st0 : List Value} {a : Array Value} (C : CX B g A own cc ret nL p s m args meth c) (hw : HW B g A s σ H locs) (hr : va_Run p l e R s m args below meth c H locs cells slots 0 0 (F0 m pc ls st0) rest (QV B g q (va_A (wW B g σ) H.size) a) (va_A (wW B g σ) H.size))
    (kk : ∀ (H1 : Heap) (locs1 : List Loc), HW B g A s q H1 locs1 → W p l e R s m args below meth c H1 locs1 cells slots Q (F0 m (pc + 3) ls rest)) : W p l e R s m args below meth c H locs cells slots Q (F0 m pc ls st0) := by
  have hF := freeW C hw
  refine va_callv hr hw.2.2 (fun q _ h => hF q h) hF (fun u t H1 locs1 ht hvm hp hB hz hk hS => ?_)
  subst hp
  obtain ⟨hP1, -, hD1⟩ := hB
  rw [ht] at hP1
  exact kk H1 locs1 ⟨hP1, hD1.weaken (fun _ _ _ h => hF _ h), hS⟩
theorem clR {q : Nat × St} {st0 : List Value} {a : Array Value} (C : CX B g A own cc ret nL p s m args meth c) (hw : HW B g A s σ H locs) (hr : va_Run p l e R s m args below meth c H locs cells slots 0 0 (F0 m pc ls st0) rest (QR B g q (va_A (wW B g σ) H.size) a) (va_A (wW B g σ) H.size))
    (kk : ∀ (H1 : Heap) (locs1 : List Loc), HW B g A s q.2 H1 locs1 → W p l e R s m args below meth c H1 locs1 cells slots Q (F0 m (pc + 3) ls (.ref (g.2.1 q.1) :: rest))) : W p l e R s m args below meth c H locs cells slots Q (F0 m pc ls st0) := by
  have hF := freeW C hw
  refine va_callr hr hw.2.2 (fun q _ h => hF q h) hF (fun u ra t H1 locs1 ht hvm hp hB hz hk hS => ?_)
  subst hp
  obtain ⟨rfl, hP1, -, hD1⟩ := hB
  rw [ht] at hP1
  exact kk H1 locs1 ⟨hP1, hD1.weaken (fun _ _ _ h => hF _ h), hS⟩
theorem preB {A1 : Nat → Prop} {vs : List Value} (C : CX B g A own cc ret nL p s m args meth c) (hw : HW B g A s σ H locs) (hA1 : A1 = va_A (wW B g σ) H.size) : FrameBlind (va_Pc vs (BW B g σ H.size)) ∧ ∀ U : State, U.heap = H → s.WarmedH U.vm → va_Pc vs (BW B g σ H.size) vs.toArray U := by
  have hF := freeW C hw
  obtain ⟨hx, hb, hrt, hml, hown, hts, hK, hE, hA, hlk⟩ := C
  obtain ⟨hP, hD, hS⟩ := hw
  refine ⟨fun a U g2 mk q => ?_, fun U hU hW => ⟨rfl, by rw [hU], by rw [hU]; exact hP, va_K.moved hW.alike hK, hD.weaken (fun _ _ _ _ => trivial), fun h1 => (hE h1).call hS hF hU hW⟩⟩
  obtain ⟨q0, q1, qP, qK, qD, qE⟩ := q
  exact ⟨q0, q1, qP, va_K.moved (u := U) (U := U.calling g2 mk a) (Vm.Alike.refl U.vm) qK, qD, fun h1 => (qE h1).frame rfl⟩
theorem goodOf {ws : List Cond} (h : ∀ w ∈ ws, w ∈ lwG) : GoodIn lwG ws := fun w hw => ⟨h w hw, good_of_word (lwG_good w (h w hw))⟩
theorem wsIn {ws ws' : List Cond} (h : ∀ w ∈ ws, w ∈ lwG) (h2 : ws' = ws ++ lwG) : ∀ w ∈ ws', w ∈ lwG := by
  subst h2
  exact fun w hw => (List.mem_append.mp hw).elim (h w) id
theorem invV {y : MethodName} {bytes : ByteArray} {maxL lvy n index : Nat} {rety : Option FieldType} {wsy : List Cond} {Cn : String} {b : Nat} {As : List Value} {Qy : QT} (C : CX B g A own cc ret nL p s m args meth c) (hw : HW B g A s σ H locs) (hM : CT B l y wsy lvy (.ref b :: As) g σ Qy) (hws : wsy = Cond.code y bytes maxL rety :: lwG)
    (hwd : ∀ w ∈ ([.methodLink own index y, .instanceMethod y, .selects Cn y y, .initialized Cn, .code y bytes maxL rety] : List Cond), w ∈ lwG) (hd : y.cls = Cn ∧ y.cls ≠ "java/lang/invoke/MethodHandle" ∧ y.cls ≠ "java/lang/invoke/VarHandle" ∧ (parseMethodDescriptor y.desc).map (fun d => d.parameters.length) = some n) (hR : lvy + 1 ≤ R.frames ∧ 8 + (maxL + 11) + 64 * lvy ≤ R.locals)
    (hrecv : ∃ cell : Cell, H[b]? = some cell ∧ cell.vm.isStatics = false ∧ s.vm.findClass Cn = some cell.cls) (hn : As.length = n) (hsz : ls.size = nL) {st0 : List Value} (hst : st0 = As.reverse ++ .ref b :: rest) (hroom : (rest.map fun v => v.category).sum ≤ 8) (hdg : decode cc pc = .ok (.invokevirtual index, 3)) (hf : cells ≤ R.cells ∧ slots ≤ R.slots) :
    va_Run p l e R s m args below meth c H locs cells slots 0 0 (F0 m pc ls st0) rest (Qy (va_A (wW B g σ) H.size) (Value.ref b :: As).toArray) (va_A (wW B g σ) H.size) := by
  have hpre := preB (vs := .ref b :: As) C hw rfl
  subst hws
  exact va_runV (As := As) (rest := rest) ⟨C.1, C.2.1, C.2.2.2.1, C.2.2.2.2.1, C.2.2.2.2.2.1⟩ (hM H.size) (cwV n C.2.2.2.2.2.1 (goodOf (fun w hw => by
      rcases List.mem_append.mp hw with h | h
      · rcases List.mem_cons.mp h with h | h
        · exact hwd w (by rw [h]; exact List.mem_cons_self)
        · rcases List.mem_cons.mp h with h | h
          · exact hwd w (by rw [h]; simp)
          · rcases List.mem_cons.mp h with h | h
            · exact hwd w (by rw [h]; simp)
            · exact hwd w (by rw [List.mem_singleton.mp h]; simp)
      · rcases List.mem_cons.mp h with h | h
        · exact hwd w (by rw [h]; simp)
        · exact h)) rfl rfl rfl hd hR) ⟨hpre.1, hrecv, hpre.2⟩ rfl hn hsz hst (lv_room hroom) hdg hf
theorem invS {y : MethodName} {bytes : ByteArray} {maxL lvy n index : Nat} {rety : Option FieldType} {wsy : List Cond} {As : List Value} {Qy : QT} (C : CX B g A own cc ret nL p s m args meth c) (hw : HW B g A s σ H locs) (hM : CT B l y wsy lvy As g σ Qy) (hws : wsy = Cond.code y bytes maxL rety :: lwG)
    (hwd : ∀ w ∈ ([.methodLink own index y, .static y, .initialized y.cls, .code y bytes maxL rety] : List Cond), w ∈ lwG) (hd : y.cls ≠ "java/lang/invoke/MethodHandle" ∧ y.cls ≠ "java/lang/invoke/VarHandle" ∧ (parseMethodDescriptor y.desc).map (fun d => d.parameters.length) = some n) (hR : lvy + 1 ≤ R.frames ∧ 8 + (maxL + 11) + 64 * lvy ≤ R.locals)
    (hn : As.length = n) (hsz : ls.size = nL) {st0 : List Value} (hst : st0 = As.reverse ++ rest) (hroom : (rest.map fun v => v.category).sum ≤ 8) (hdg : decode cc pc = .ok (.invokestatic index, 3)) (hf : cells ≤ R.cells ∧ slots ≤ R.slots) :
    va_Run p l e R s m args below meth c H locs cells slots 0 0 (F0 m pc ls st0) rest (Qy (va_A (wW B g σ) H.size) As.toArray) (va_A (wW B g σ) H.size) := by
  have hpre := preB (vs := As) C hw rfl
  subst hws
  exact va_runS (As := As) (rest := rest) ⟨C.1, C.2.1, C.2.2.2.1, C.2.2.2.2.1, C.2.2.2.2.2.1⟩ (hM H.size) (va_cwS n C.2.2.2.2.2.1 (goodOf (fun w hw => by
      rcases List.mem_append.mp hw with h | h
      · rcases List.mem_cons.mp h with h | h
        · exact hwd w (by rw [h]; exact List.mem_cons_self)
        · rcases List.mem_cons.mp h with h | h
          · exact hwd w (by rw [h]; simp)
          · exact hwd w (by rw [List.mem_singleton.mp h]; simp)
      · rcases List.mem_cons.mp h with h | h
        · exact hwd w (by rw [h]; simp)
        · exact h)) rfl rfl rfl hd hR) ⟨hpre.1, hpre.2⟩ rfl hn hsz hst (lv_room hroom) hdg hf
theorem invSN {y : MethodName} {bytes : ByteArray} {maxL lvy n index : Nat} {rety : Option FieldType} {wsy : List Cond} {As : List Value} {Qy : QT} {host : String} (C : CX B g A own cc ret nL p s m args meth c) (hw : HW B g A s σ H locs) (hM : CT B l y wsy lvy As g σ Qy) (hws : wsy = Cond.code y bytes maxL rety :: lwG) (hnest : va_Nw (.methodLinkNest own index y host) s)
    (hwd : ∀ w ∈ ([.static y, .initialized y.cls, .code y bytes maxL rety] : List Cond), w ∈ lwG) (hd : y.cls ≠ "java/lang/invoke/MethodHandle" ∧ y.cls ≠ "java/lang/invoke/VarHandle" ∧ (parseMethodDescriptor y.desc).map (fun d => d.parameters.length) = some n) (hR : lvy + 1 ≤ R.frames ∧ 8 + (maxL + 11) + 64 * lvy ≤ R.locals)
    (hn : As.length = n) (hsz : ls.size = nL) {st0 : List Value} (hst : st0 = As.reverse ++ rest) (hroom : (rest.map fun v => v.category).sum ≤ 8) (hdg : decode cc pc = .ok (.invokestatic index, 3)) (hf : cells ≤ R.cells ∧ slots ≤ R.slots) :
    va_Run p l e R s m args below meth c H locs cells slots 0 0 (F0 m pc ls st0) rest (Qy (va_A (wW B g σ) H.size) As.toArray) (va_A (wW B g σ) H.size) := by
  have hpre := preB (vs := As) C hw rfl
  have hts := C.2.2.2.2.2.1
  subst hws
  exact va_runSN (As := As) (rest := rest) ⟨C.1, C.2.1, C.2.2.2.1, C.2.2.2.2.1, hts⟩ (hM H.size) ⟨va_cnB n hts (goodOf (fun w hw => by
      rcases List.mem_cons.mp hw with h | h
      · exact hwd w (by rw [h]; simp)
      · exact h)) rfl rfl rfl hnest (hts _ (hwd _ (by simp))) hd hR, hts _ (hwd _ (by simp)), trivial⟩ ⟨hpre.1, hpre.2⟩ rfl hn hsz hst (lv_room hroom) hdg hf
theorem recvW {Cn : String} {T : u_T} {N ci c0 : Nat} {fs : List Value} (C : CX B g A own cc ret nL p s m args meth c) (hw : HW B g A s σ H locs) (hlt : c0 < B.2.1) (he : eV g c0 (B.1 c0) (σ.1 c0) (σ.2.1 c0) (σ.2.2.1 c0) (σ.2.2.2 c0) = .inr (ci, fs)) (hc : vwCl[ci]? = some (Cn, T, N)) : ∃ cell : Cell, H[g.2.1 c0]? = some cell ∧ cell.vm.isStatics = false ∧ s.vm.findClass Cn = some cell.cls :=
  va_recv C.2.2.2.2.2.2.1 hw.1 hc ((wW_get hlt).trans (congrArg (fun e => some (g.2.1 c0, e)) he))
theorem getW {Cn : String} {T : u_T} {N ci c0 k index : Nat} {fs : List Value} {v : Value} (C : CX B g A own cc ret nL p s m args meth c) (hw : HW B g A s σ H locs) (hlt : c0 < B.2.1) (he : eV g c0 (B.1 c0) (σ.1 c0) (σ.2.1 c0) (σ.2.2.1 c0) (σ.2.2.2 c0) = .inr (ci, fs)) (hc : vwCl[ci]? = some (Cn, T, N)) (hin : ∀ w ∈ u_ws Cn T N, w ∈ lwG) (hk : k < N) (hl : Cond.fieldLink own index (T k).1 (T k).2.1 (T k).2.2.1 ∈ lwG) (hv : fs[k]? = some v) (hdg : decode cc pc = .ok (.getfield index, 3))
    (kk : W p l e R s m args below meth c H locs cells slots Q (F0 m (pc + 3) ls (v :: rest))) : W p l e R s m args below meth c H locs cells slots Q (F0 m pc ls (.ref (g.2.1 c0) :: rest)) :=
  va_get (D := g.1) (ci := ci) (C := Cn) (T := T) (N := N) (ref := (T k).1) C.1 C.2.1 C.2.2.2.2.2.1 hin C.2.2.2.2.1 C.2.2.2.2.2.2.1 hw.1 c0 ((wW_get hlt).trans (congrArg (fun e => some (g.2.1 c0, e)) he)) hc k hk (C.2.2.2.2.2.1 _ hl) (fun _ h9 => h9) hv hdg kk
theorem putW {σ' : St} {Cn : String} {T : u_T} {N ci c0 k index : Nat} {ty : Nat → FieldType} {fs : List Value} {v : Value} (C : CX B g A own cc ret nL p s m args meth c) (hw : HW B g A s σ H locs) (hlt : c0 < B.2.1) (he : eV g c0 (B.1 c0) (σ.1 c0) (σ.2.1 c0) (σ.2.2.1 c0) (σ.2.2.2 c0) = .inr (ci, fs)) (hc : vwCl[ci]? = some (Cn, T, N)) (hin : ∀ w ∈ u_ws Cn T N, w ∈ lwG) (hty : ∀ k, k < N → parseFieldDescriptor (T k).2.2.1 = some (ty k)) (hnm : ∀ a, a < N → ∀ b, b < N → a ≠ b → (T a).2.1 ≠ (T b).2.1) (hk : k < N) (hl : Cond.fieldLink own index (T k).1 (T k).2.1 (T k).2.2.1 ∈ lwG) (hfin : (T k).2.2.2 = false) (hn : narrow (ty k) v = v) (hfit : fits (ty k) v = true) (hlen : k < fs.length)
    (hset : (wW B g σ).set c0 (g.2.1 c0, .inr (ci, fs.set k v)) = wW B g σ') (hdg : decode cc pc = .ok (.putfield index, 3))
    (kk : ∀ (H1 : Heap) (locs1 : List Loc), HW B g A s σ' H1 locs1 → W p l e R s m args below meth c H1 locs1 cells slots Q (F0 m (pc + 3) ls rest)) : W p l e R s m args below meth c H locs cells slots Q (F0 m pc ls (v :: .ref (g.2.1 c0) :: rest)) :=
  va_put (D := g.1) (ci := ci) (C := Cn) (T := T) (N := N) (ref := (T k).1) C.1 C.2.1 C.2.2.2.2.2.1 hin ty hty hnm C.2.2.2.2.1 C.2.2.2.2.2.2.1 hw.1 hw.2.1 hw.2.2 c0 ((wW_get hlt).trans (congrArg (fun e => some (g.2.1 c0, e)) he)) hc k hk (C.2.2.2.2.2.1 _ hl) (fun _ h9 => h9) hfin (hty k hk) hn hfit hlen hdg (fun H1 locs1 hP hD hS => kk H1 locs1 ⟨by rw [← hset]; exact hP, by rw [← hset]; exact hD, hS⟩)
theorem eV_I {c n : Nat} {I J : Nat → Int32} {L : Nat → Int64} {h : Nat} (hn : n < 900) : eV g c (n + 100) I J L h = .inl (g.2.2 0, n, .inl J) := by
  unfold eV
  split <;> first | omega | (rw [if_pos (by omega), show n + 100 - 100 = n by omega])
theorem eV_B {c n : Nat} {I J : Nat → Int32} {L : Nat → Int64} {h : Nat} (hn : n < 1000) : eV g c (n + 1000) I J L h = .inl (g.2.2 1, n, .inl J) := by
  unfold eV
  split <;> first | omega | (rw [if_neg (by omega), if_pos (by omega), show n + 1000 - 1000 = n by omega])
theorem eV_L {c n : Nat} {I J : Nat → Int32} {L : Nat → Int64} {h : Nat} (hn : n < 1000) : eV g c (n + 2000) I J L h = .inl (g.2.2 2, n, .inr (.inl L)) := by
  unfold eV
  split <;> first | omega | (rw [if_neg (by omega), if_neg (by omega), if_pos (by omega), show n + 2000 - 2000 = n by omega])
theorem eV_Z {c n : Nat} {I J : Nat → Int32} {L : Nat → Int64} {h : Nat} (hn : n < 1000) : eV g c (n + 3000) I J L h = .inl (g.2.2 3, n, .inl J) := by
  unfold eV
  split <;> first | omega | (rw [if_neg (by omega), if_neg (by omega), if_neg (by omega), if_pos (by omega), show n + 3000 - 3000 = n by omega])
theorem atI {c0 n : Nat} (hc : tg B c0 (n + 100)) (hn : n < 900) : (wW B g σ)[c0]? = some (g.2.1 c0, .inl (g.2.2 0, n, .inl (vJ σ c0))) := by
  rw [wW_get hc.1, hc.2]; unfold eW; rw [eV_I hn]; rfl
theorem atB {c0 n : Nat} (hc : tg B c0 (n + 1000)) (hn : n < 1000) : (wW B g σ)[c0]? = some (g.2.1 c0, .inl (g.2.2 1, n, .inl (vJ σ c0))) := by
  rw [wW_get hc.1, hc.2]; unfold eW; rw [eV_B hn]; rfl
theorem atL {c0 n : Nat} (hc : tg B c0 (n + 2000)) (hn : n < 1000) : (wW B g σ)[c0]? = some (g.2.1 c0, .inl (g.2.2 2, n, .inr (.inl (vL σ c0)))) := by
  rw [wW_get hc.1, hc.2]; unfold eW; rw [eV_L hn]; rfl
theorem atZ {c0 n : Nat} (hc : tg B c0 (n + 3000)) (hn : n < 1000) : (wW B g σ)[c0]? = some (g.2.1 c0, .inl (g.2.2 3, n, .inl (vJ σ c0))) := by
  rw [wW_get hc.1, hc.2]; unfold eW; rw [eV_Z hn]; rfl
theorem stI0 {c0 n : Nat} (hc : tg B c0 (n + 100)) (hn : n < 900) (h : Nat → Int32) : (wW B g σ).set c0 (g.2.1 c0, .inl (g.2.2 0, n, .inl h)) = wW B g (sJ σ c0 h) := wW_sJ (by rw [hc.2]; exact eV_I hn)
theorem stB0 {c0 n : Nat} (hc : tg B c0 (n + 1000)) (hn : n < 1000) (h : Nat → Int32) : (wW B g σ).set c0 (g.2.1 c0, .inl (g.2.2 1, n, .inl h)) = wW B g (sJ σ c0 h) := wW_sJ (by rw [hc.2]; exact eV_B hn)
theorem stL0 {c0 n : Nat} (hc : tg B c0 (n + 2000)) (hn : n < 1000) (h : Nat → Int64) : (wW B g σ).set c0 (g.2.1 c0, .inl (g.2.2 2, n, .inr (.inl h))) = wW B g (sL σ c0 h) := wW_sL (by rw [hc.2]; exact eV_L hn)
theorem stZ0 {c0 n : Nat} (hc : tg B c0 (n + 3000)) (hn : n < 1000) (h : Nat → Int32) : (wW B g σ).set c0 (g.2.1 c0, .inl (g.2.2 3, n, .inl h)) = wW B g (sJ σ c0 h) := wW_sJ (by rw [hc.2]; exact eV_Z hn)
theorem ldI {c0 n : Nat} {i : Int32} (C : CX B g A own cc ret nL p s m args meth c) (hw : HW B g A s σ H locs) (hc : tg B c0 (n + 100)) (hn : n < 900) (hi : ok i n = true) (hdg : decode cc pc = .ok (.iaload, 1))
    (kk : W p l e R s m args below meth c H locs cells slots Q (F0 m (pc + 1) ls (.int (vJ σ c0 i.toNatClampNeg) :: rest))) : W p l e R s m args below meth c H locs cells slots Q (F0 m pc ls (.int i :: .ref (g.2.1 c0) :: rest)) :=
  va_iald C.1 C.2.1 C.2.2.2.2.2.2.1 hw.1 c0 0 (atI hc hn) rfl (ok_in hi) hdg kk
theorem ldB {c0 n : Nat} {i : Int32} (C : CX B g A own cc ret nL p s m args meth c) (hw : HW B g A s σ H locs) (hc : tg B c0 (n + 1000)) (hn : n < 1000) (hi : ok i n = true) (hdg : decode cc pc = .ok (.baload, 1))
    (kk : W p l e R s m args below meth c H locs cells slots Q (F0 m (pc + 1) ls (.int (vJ σ c0 i.toNatClampNeg) :: rest))) : W p l e R s m args below meth c H locs cells slots Q (F0 m pc ls (.int i :: .ref (g.2.1 c0) :: rest)) :=
  va_bald C.1 C.2.1 C.2.2.2.2.2.2.1 hw.1 c0 1 (atB hc hn) rfl (ok_in hi) hdg kk
theorem ldL {c0 n : Nat} {i : Int32} (C : CX B g A own cc ret nL p s m args meth c) (hw : HW B g A s σ H locs) (hc : tg B c0 (n + 2000)) (hn : n < 1000) (hi : ok i n = true) (hdg : decode cc pc = .ok (.laload, 1))
    (kk : W p l e R s m args below meth c H locs cells slots Q (F0 m (pc + 1) ls (.long (vL σ c0 i.toNatClampNeg) :: rest))) : W p l e R s m args below meth c H locs cells slots Q (F0 m pc ls (.int i :: .ref (g.2.1 c0) :: rest)) :=
  va_lald C.1 C.2.1 C.2.2.2.2.2.2.1 hw.1 c0 2 (atL hc hn) rfl (ok_in hi) hdg kk
theorem ldZ {c0 n : Nat} {i : Int32} (C : CX B g A own cc ret nL p s m args meth c) (hw : HW B g A s σ H locs) (hc : tg B c0 (n + 3000)) (hn : n < 1000) (hi : ok i n = true) (hdg : decode cc pc = .ok (.baload, 1))
    (kk : W p l e R s m args below meth c H locs cells slots Q (F0 m (pc + 1) ls (.int (vJ σ c0 i.toNatClampNeg) :: rest))) : W p l e R s m args below meth c H locs cells slots Q (F0 m pc ls (.int i :: .ref (g.2.1 c0) :: rest)) :=
  va_zald C.1 C.2.1 C.2.2.2.2.2.2.1 hw.1 c0 3 (atZ hc hn) rfl (ok_in hi) hdg kk
theorem stI {c0 n : Nat} {i x : Int32} (C : CX B g A own cc ret nL p s m args meth c) (hw : HW B g A s σ H locs) (hc : tg B c0 (n + 100)) (hn : n < 900) (hi : ok i n = true) (hdg : decode cc pc = .ok (.iastore, 1))
    (kk : ∀ (H1 : Heap) (locs1 : List Loc), HW B g A s (sJ σ c0 (upd (vJ σ c0) i.toNatClampNeg x)) H1 locs1 → W p l e R s m args below meth c H1 locs1 cells slots Q (F0 m (pc + 1) ls rest)) : W p l e R s m args below meth c H locs cells slots Q (F0 m pc ls (.int x :: .int i :: .ref (g.2.1 c0) :: rest)) :=
  va_iast C.1 C.2.1 C.2.2.2.2.2.2.1 hw.1 hw.2.1 hw.2.2 c0 0 (atI hc hn) rfl (ok_in hi) hdg (fun H1 locs1 hP hD hS => kk H1 locs1 ⟨by rw [← stI0 hc hn]; exact hP, by rw [← stI0 hc hn]; exact hD, hS⟩)
theorem stB {c0 n : Nat} {i x : Int32} (C : CX B g A own cc ret nL p s m args meth c) (hw : HW B g A s σ H locs) (hc : tg B c0 (n + 1000)) (hn : n < 1000) (hi : ok i n = true) (hdg : decode cc pc = .ok (.bastore, 1))
    (kk : ∀ (H1 : Heap) (locs1 : List Loc), HW B g A s (sJ σ c0 (upd (vJ σ c0) i.toNatClampNeg (vp_nar .byte x))) H1 locs1 → W p l e R s m args below meth c H1 locs1 cells slots Q (F0 m (pc + 1) ls rest)) : W p l e R s m args below meth c H locs cells slots Q (F0 m pc ls (.int x :: .int i :: .ref (g.2.1 c0) :: rest)) :=
  va_bast C.1 C.2.1 C.2.2.2.2.2.2.1 hw.1 hw.2.1 hw.2.2 c0 1 (atB hc hn) rfl (ok_in hi) hdg (fun H1 locs1 hP hD hS => kk H1 locs1 ⟨by rw [← stB0 hc hn]; exact hP, by rw [← stB0 hc hn]; exact hD, hS⟩)
theorem stZ {c0 n : Nat} {i x : Int32} (C : CX B g A own cc ret nL p s m args meth c) (hw : HW B g A s σ H locs) (hc : tg B c0 (n + 3000)) (hn : n < 1000) (hi : ok i n = true) (hdg : decode cc pc = .ok (.bastore, 1))
    (kk : ∀ (H1 : Heap) (locs1 : List Loc), HW B g A s (sJ σ c0 (upd (vJ σ c0) i.toNatClampNeg (vp_nar .boolean x))) H1 locs1 → W p l e R s m args below meth c H1 locs1 cells slots Q (F0 m (pc + 1) ls rest)) : W p l e R s m args below meth c H locs cells slots Q (F0 m pc ls (.int x :: .int i :: .ref (g.2.1 c0) :: rest)) :=
  va_zast C.1 C.2.1 C.2.2.2.2.2.2.1 hw.1 hw.2.1 hw.2.2 c0 3 (atZ hc hn) rfl (ok_in hi) hdg (fun H1 locs1 hP hD hS => kk H1 locs1 ⟨by rw [← stZ0 hc hn]; exact hP, by rw [← stZ0 hc hn]; exact hD, hS⟩)
theorem stL {c0 n : Nat} {i : Int32} {x : Int64} (C : CX B g A own cc ret nL p s m args meth c) (hw : HW B g A s σ H locs) (hc : tg B c0 (n + 2000)) (hn : n < 1000) (hi : ok i n = true) (hdg : decode cc pc = .ok (.lastore, 1))
    (kk : ∀ (H1 : Heap) (locs1 : List Loc), HW B g A s (sL σ c0 (va_up (vL σ c0) i.toNatClampNeg x)) H1 locs1 → W p l e R s m args below meth c H1 locs1 cells slots Q (F0 m (pc + 1) ls rest)) : W p l e R s m args below meth c H locs cells slots Q (F0 m pc ls (.long x :: .int i :: .ref (g.2.1 c0) :: rest)) :=
  va_last C.1 C.2.1 C.2.2.2.2.2.2.1 hw.1 hw.2.1 hw.2.2 c0 2 (atL hc hn) rfl (ok_in hi) hdg (fun H1 locs1 hP hD hS => kk H1 locs1 ⟨by rw [← stL0 hc hn]; exact hP, by rw [← stL0 hc hn]; exact hD, hS⟩)
theorem ldR {c0 : Nat} {i : Int32} (C : CX B g A own cc ret nL p s m args meth c) (hw : HW B g A s σ H locs) (hc : tg B c0 4000) (hi : ok i 6 = true) (hdg : decode cc pc = .ok (.aaload, 1))
    (kk : W p l e R s m args below meth c H locs cells slots Q (F0 m (pc + 1) ls (.ref (g.2.1 (7 + 6 * i.toNatClampNeg)) :: rest))) : W p l e R s m args below meth c H locs cells slots Q (F0 m pc ls (.int i :: .ref (g.2.1 c0) :: rest)) :=
  va_aldq (C := "LittleLeft$Rule") (f := fun i => some (g.2.1 (7 + 6 * i))) C.1 C.2.1 C.2.2.2.2.2.2.1 hw.1 c0 4 (by rw [wW_get hc.1, hc.2]; rfl) rfl (ok_in hi) hdg kk
theorem ldT {c0 : Nat} {i : Int32} (C : CX B g A own cc ret nL p s m args meth c) (hw : HW B g A s σ H locs) (hc : tg B c0 4001) (hi : ok i 6 = true) (hdg : decode cc pc = .ok (.aaload, 1))
    (kk : W p l e R s m args below meth c H locs cells slots Q (F0 m (pc + 1) ls (.ref (g.2.1 (92 + 2 * i.toNatClampNeg)) :: rest))) : W p l e R s m args below meth c H locs cells slots Q (F0 m pc ls (.int i :: .ref (g.2.1 c0) :: rest)) :=
  va_aldq (C := "LittleLeft$Tape") (f := fun i => some (g.2.1 (92 + 2 * i))) C.1 C.2.1 C.2.2.2.2.2.2.1 hw.1 c0 5 (by rw [wW_get hc.1, hc.2]; rfl) rfl (ok_in hi) hdg kk
theorem lnI {c0 n : Nat} {v : Int32} (C : CX B g A own cc ret nL p s m args meth c) (hw : HW B g A s σ H locs) (hc : tg B c0 (n + 100)) (hn : n < 900) (hv : Int32.ofNat n = v) (hdg : decode cc pc = .ok (.arraylength, 1))
    (kk : W p l e R s m args below meth c H locs cells slots Q (F0 m (pc + 1) ls (.int v :: rest))) : W p l e R s m args below meth c H locs cells slots Q (F0 m pc ls (.ref (g.2.1 c0) :: rest)) :=
  va_alen C.1 C.2.1 C.2.2.2.2.2.2.1 hw.1 c0 0 (atI hc hn) rfl hv hdg kk
theorem lnB {c0 n : Nat} {v : Int32} (C : CX B g A own cc ret nL p s m args meth c) (hw : HW B g A s σ H locs) (hc : tg B c0 (n + 1000)) (hn : n < 1000) (hv : Int32.ofNat n = v) (hdg : decode cc pc = .ok (.arraylength, 1))
    (kk : W p l e R s m args below meth c H locs cells slots Q (F0 m (pc + 1) ls (.int v :: rest))) : W p l e R s m args below meth c H locs cells slots Q (F0 m pc ls (.ref (g.2.1 c0) :: rest)) :=
  va_alen C.1 C.2.1 C.2.2.2.2.2.2.1 hw.1 c0 1 (atB hc hn) rfl hv hdg kk
theorem lnL {c0 n : Nat} {v : Int32} (C : CX B g A own cc ret nL p s m args meth c) (hw : HW B g A s σ H locs) (hc : tg B c0 (n + 2000)) (hn : n < 1000) (hv : Int32.ofNat n = v) (hdg : decode cc pc = .ok (.arraylength, 1))
    (kk : W p l e R s m args below meth c H locs cells slots Q (F0 m (pc + 1) ls (.int v :: rest))) : W p l e R s m args below meth c H locs cells slots Q (F0 m pc ls (.ref (g.2.1 c0) :: rest)) :=
  va_alen C.1 C.2.1 C.2.2.2.2.2.2.1 hw.1 c0 2 (atL hc hn) rfl hv hdg kk
/-- places of a copy: a start, how many, of so many -/
def okc (sp n : Int32) (N : Nat) : Bool := decide (0 ≤ sp.toInt) && (decide (0 ≤ n.toInt) && decide (sp.toInt + n.toInt ≤ N))
theorem okc_iff {sp n : Int32} {N : Nat} : okc sp n N = true ↔ 0 ≤ sp.toInt ∧ 0 ≤ n.toInt ∧ sp.toInt + n.toInt ≤ N := by simp [okc]
theorem i_neg {x : Int32} (h : 0 ≤ x.toInt) : ¬ x < 0 := by
  intro q
  have q2 := Int32.lt_iff_toInt_lt.mp q
  have : (0 : Int32).toInt = 0 := by decide
  omega
theorem okc_le {sp n : Int32} {N : Nat} (h : okc sp n N = true) : sp.toNatClampNeg + n.toNatClampNeg ≤ N := by
  obtain ⟨h1, h2, h3⟩ := okc_iff.mp h
  show sp.toInt.toNat + n.toInt.toNat ≤ N
  omega
theorem cpI {c0 c1 n0 n1 index : Nat} {sp dp n : Int32} (C : CX B g A own cc ret nL p s m args meth c) (hw : HW B g A s σ H locs) (hwd : ∀ w ∈ ([.methodLink own index arraycopyName, .native arraycopyName, .static arraycopyName, .initialized "java/lang/System"] : List Cond), w ∈ lwG) (hc0 : tg B c0 (n0 + 100)) (hn0 : n0 < 900) (hc1 : tg B c1 (n1 + 100)) (hn1 : n1 < 900) (h1 : okc sp n n0 = true) (h2 : okc dp n n1 = true) (hsz : ls.size = nL)
    (hframes : 1 ≤ R.frames) (hlocals : (rest.map fun v => v.category).sum + (nativeFrameWords "java/lang/System" "arraycopy" 5 + 11) ≤ R.locals) (hdg : decode cc pc = .ok (.invokestatic index, 3))
    (kk : ∀ (H1 : Heap) (locs1 : List Loc), HW B g A s (sJ σ c1 (va_cpy (vJ σ c0) (vJ σ c1) sp.toNatClampNeg dp.toNatClampNeg n.toNatClampNeg)) H1 locs1 → W p l e R s m args below meth c H1 locs1 cells slots Q (F0 m (pc + 3) ls rest)) : W p l e R s m args below meth c H locs cells slots Q (F0 m pc ls (.int n :: .int dp :: .ref (g.2.1 c1) :: .int sp :: .ref (g.2.1 c0) :: rest)) :=
  va_copyi C.1 C.2.1 (C.2.2.2.1.trans hsz.symm) C.2.2.2.2.1 (C.2.2.2.2.2.1 _ (hwd _ (by simp))) (C.2.2.2.2.2.1 _ (hwd _ (by simp))) (C.2.2.2.2.2.1 _ (hwd _ (by simp))) (C.2.2.2.2.2.1 _ (hwd _ (by simp))) C.2.2.2.2.2.2.1 hw.1 hw.2.1 hw.2.2 c0 c1 0 0 (atI hc0 hn0) (atI hc1 hn1) rfl rfl rfl (i_neg (okc_iff.mp h1).1) (i_neg (okc_iff.mp h2).1) (i_neg (okc_iff.mp h1).2.1) (okc_le h1) (okc_le h2) (fun _ _ => rfl) hframes hlocals hdg
    (fun H1 locs1 hP hD hS => kk H1 locs1 ⟨by rw [← stI0 hc1 hn1]; exact hP, by rw [← stI0 hc1 hn1]; exact hD, hS⟩)
theorem cpL {c0 c1 n0 n1 index : Nat} {sp dp n : Int32} (C : CX B g A own cc ret nL p s m args meth c) (hw : HW B g A s σ H locs) (hwd : ∀ w ∈ ([.methodLink own index arraycopyName, .native arraycopyName, .static arraycopyName, .initialized "java/lang/System"] : List Cond), w ∈ lwG) (hc0 : tg B c0 (n0 + 2000)) (hn0 : n0 < 1000) (hc1 : tg B c1 (n1 + 2000)) (hn1 : n1 < 1000) (h1 : okc sp n n0 = true) (h2 : okc dp n n1 = true) (hsz : ls.size = nL)
    (hframes : 1 ≤ R.frames) (hlocals : (rest.map fun v => v.category).sum + (nativeFrameWords "java/lang/System" "arraycopy" 5 + 11) ≤ R.locals) (hdg : decode cc pc = .ok (.invokestatic index, 3))
    (kk : ∀ (H1 : Heap) (locs1 : List Loc), HW B g A s (sL σ c1 (va_cpy (vL σ c0) (vL σ c1) sp.toNatClampNeg dp.toNatClampNeg n.toNatClampNeg)) H1 locs1 → W p l e R s m args below meth c H1 locs1 cells slots Q (F0 m (pc + 3) ls rest)) : W p l e R s m args below meth c H locs cells slots Q (F0 m pc ls (.int n :: .int dp :: .ref (g.2.1 c1) :: .int sp :: .ref (g.2.1 c0) :: rest)) :=
  va_copyl C.1 C.2.1 (C.2.2.2.1.trans hsz.symm) C.2.2.2.2.1 (C.2.2.2.2.2.1 _ (hwd _ (by simp))) (C.2.2.2.2.2.1 _ (hwd _ (by simp))) (C.2.2.2.2.2.1 _ (hwd _ (by simp))) (C.2.2.2.2.2.1 _ (hwd _ (by simp))) C.2.2.2.2.2.2.1 hw.1 hw.2.1 hw.2.2 c0 c1 2 2 (atL hc0 hn0) (atL hc1 hn1) rfl rfl rfl (i_neg (okc_iff.mp h1).1) (i_neg (okc_iff.mp h2).1) (i_neg (okc_iff.mp h1).2.1) (okc_le h1) (okc_le h2) (fun _ _ => rfl) hframes hlocals hdg
    (fun H1 locs1 hP hD hS => kk H1 locs1 ⟨by rw [← stL0 hc1 hn1]; exact hP, by rw [← stL0 hc1 hn1]; exact hD, hS⟩)
def mnI (x y : Int32) : Int32 := if y < x then y else x
def mxI (x y : Int32) : Int32 := if x < y then y else x
theorem minR {index : Nat} {x y : Int32} (C : CX B g A own cc ret nL p s m args meth c) (hwd : ∀ w ∈ ([.methodLink own index Lib.Math.min.name, .static Lib.Math.min.name, .initialized "java/lang/Math", .code Lib.Math.min.name Lib.Math.min.code 2 (some .int)] : List Cond), w ∈ lwG) (hsz : ls.size = nL) (hframes : 1 ≤ R.frames) (hlocals : (rest.map fun v => v.category).sum + 13 ≤ R.locals) (hf : cells ≤ R.cells ∧ slots ≤ R.slots) (hdg : decode cc pc = .ok (.invokestatic index, 3))
    (kk : W p l e R s m args below meth c H locs cells slots Q (F0 m (pc + 3) ls (.int (mnI x y) :: rest))) : W p l e R s m args below meth c H locs cells slots Q (F0 m pc ls (.int y :: .int x :: rest)) :=
  va_mmin C.1 C.2.1 (C.2.2.2.1.trans hsz.symm) C.2.2.2.2.1 (C.2.2.2.2.2.1 _ (hwd _ (by simp))) (C.2.2.2.2.2.1 _ (hwd _ (by simp))) (C.2.2.2.2.2.1 _ (hwd _ (by simp))) (C.2.2.2.2.2.1 _ (hwd _ (by simp))) hframes hlocals hf.1 hf.2 hdg kk
theorem maxR {index : Nat} {x y : Int32} (C : CX B g A own cc ret nL p s m args meth c) (hwd : ∀ w ∈ ([.methodLink own index Lib.Math.max.name, .static Lib.Math.max.name, .initialized "java/lang/Math", .code Lib.Math.max.name Lib.Math.max.code 2 (some .int)] : List Cond), w ∈ lwG) (hsz : ls.size = nL) (hframes : 1 ≤ R.frames) (hlocals : (rest.map fun v => v.category).sum + 13 ≤ R.locals) (hf : cells ≤ R.cells ∧ slots ≤ R.slots) (hdg : decode cc pc = .ok (.invokestatic index, 3))
    (kk : W p l e R s m args below meth c H locs cells slots Q (F0 m (pc + 3) ls (.int (mxI x y) :: rest))) : W p l e R s m args below meth c H locs cells slots Q (F0 m pc ls (.int y :: .int x :: rest)) :=
  va_mmax C.1 C.2.1 (C.2.2.2.1.trans hsz.symm) C.2.2.2.2.1 (C.2.2.2.2.2.1 _ (hwd _ (by simp))) (C.2.2.2.2.2.1 _ (hwd _ (by simp))) (C.2.2.2.2.2.1 _ (hwd _ (by simp))) (C.2.2.2.2.2.1 _ (hwd _ (by simp))) hframes hlocals hf.1 hf.2 hdg kk
theorem remR {x y : Int32} (C : CX B g A own cc ret nL p s m args meth c) (hne : ¬ y = 0) (hdg : decode cc pc = .ok (.irem, 1))
    (kk : W p l e R s m args below meth c H locs cells slots Q (F0 m (pc + 1) ls (.int (x % y) :: rest))) : W p l e R s m args below meth c H locs cells slots Q (F0 m pc ls (.int y :: .int x :: rest)) :=
  lv_irem C.1 C.2.1 hdg hne (by rw [irem_eq_mod]; exact kk)
/-- a switch: each number of its table in turn -/
theorem swIn {dflt lo hi : Int} {offs : Array Int} {len tgt : Nat} {x k : Int32} {off : Int} (C : CX B g A own cc ret nL p s m args meth c) (hx : x = k) (hdg : decode cc pc = .ok (.tableswitch dflt lo hi offs, len)) (h1 : ¬ k.toInt < lo ∧ ¬ hi < k.toInt) (ho : offs[(k.toInt - lo).toNat]? = some off) (ht : (pc : Int) + off = (tgt : Int))
    (kk : W p l e R s m args below meth c H locs cells slots Q (F0 m tgt ls rest)) : W p l e R s m args below meth c H locs cells slots Q (F0 m pc ls (.int x :: rest)) := by
  subst hx
  exact lv_tableIn C.1 C.2.1 hdg h1.1 h1.2 ho ht kk
theorem swOut {dflt lo hi : Int} {offs : Array Int} {len tgt : Nat} {x : Int32} (C : CX B g A own cc ret nL p s m args meth c) (hdg : decode cc pc = .ok (.tableswitch dflt lo hi offs, len)) (h : ∀ z : Int, lo ≤ z → z ≤ hi → x.toInt ≠ z) (ht : (pc : Int) + dflt = (tgt : Int))
    (kk : W p l e R s m args below meth c H locs cells slots Q (F0 m tgt ls rest)) : W p l e R s m args below meth c H locs cells slots Q (F0 m pc ls (.int x :: rest)) := by
  refine lv_tableOut C.1 C.2.1 hdg ?_ ht kk
  by_cases q : x.toInt < lo
  · exact Or.inl q
  · by_cases q2 : hi < x.toInt
    · exact Or.inr q2
    · exact absurd rfl (h x.toInt (by omega) (by omega))
theorem ifB {b : Bool} {off : Int} {tgt : Nat} (C : CX B g A own cc ret nL p s m args meth c) (hdg : decode cc pc = .ok (.ifCond .eq off, 3)) (ht : (pc : Int) + off = (tgt : Int))
    (kt : b = false → W p l e R s m args below meth c H locs cells slots Q (F0 m tgt ls rest)) (kf : ¬ b = false → W p l e R s m args below meth c H locs cells slots Q (F0 m (pc + 3) ls rest)) : W p l e R s m args below meth c H locs cells slots Q (F0 m pc ls (.int (b2i b) :: rest)) :=
  lv_if_eq C.1 C.2.1 hdg ht (fun h => kt (b2i_0.mp h)) (fun h => kf (fun q => h (b2i_0.mpr q)))
theorem ifnB {b : Bool} {off : Int} {tgt : Nat} (C : CX B g A own cc ret nL p s m args meth c) (hdg : decode cc pc = .ok (.ifCond .ne off, 3)) (ht : (pc : Int) + off = (tgt : Int))
    (kt : ¬ b = false → W p l e R s m args below meth c H locs cells slots Q (F0 m tgt ls rest)) (kf : b = false → W p l e R s m args below meth c H locs cells slots Q (F0 m (pc + 3) ls rest)) : W p l e R s m args below meth c H locs cells slots Q (F0 m pc ls (.int (b2i b) :: rest)) :=
  lv_if_ne C.1 C.2.1 hdg ht (fun h => kt (fun q => by rw [q] at h; exact absurd rfl h)) (fun h => kf (by cases b with | false => rfl | true => exact absurd h (by decide)))
end ROWS

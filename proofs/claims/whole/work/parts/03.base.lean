/-! the state of a system of objects, each at a place (a cell's number): ints, longs, references by (cell, slot) -/
abbrev lc_S : Type := (Nat → Nat → Int32) × (Nat → Nat → Int64) × (Nat → Nat → Option Nat)
def lcI (z : lc_S) (c k : Nat) : Int32 := z.1 c k
def lcL (z : lc_S) (c k : Nat) : Int64 := z.2.1 c k
def lcR (z : lc_S) (c k : Nat) : Option Nat := z.2.2 c k
def lcUI (z : lc_S) (c k : Nat) (v : Int32) : lc_S := (fun c' k' => if c' = c ∧ k' = k then v else z.1 c' k', z.2.1, z.2.2)
def lcUL (z : lc_S) (c k : Nat) (v : Int64) : lc_S := (z.1, fun c' k' => if c' = c ∧ k' = k then v else z.2.1 c' k', z.2.2)
def lcUR (z : lc_S) (c k : Nat) (v : Option Nat) : lc_S := (z.1, z.2.1, fun c' k' => if c' = c ∧ k' = k then v else z.2.2 c' k')
theorem lcI_UI (z : lc_S) (c k c' k' : Nat) (v : Int32) : lcI (lcUI z c k v) c' k' = if c' = c ∧ k' = k then v else lcI z c' k' := rfl
theorem lcI_UL (z : lc_S) (c k c' k' : Nat) (v : Int64) : lcI (lcUL z c k v) c' k' = lcI z c' k' := rfl
theorem lcI_UR (z : lc_S) (c k c' k' : Nat) (v : Option Nat) : lcI (lcUR z c k v) c' k' = lcI z c' k' := rfl
theorem lcL_UI (z : lc_S) (c k c' k' : Nat) (v : Int32) : lcL (lcUI z c k v) c' k' = lcL z c' k' := rfl
theorem lcL_UL (z : lc_S) (c k c' k' : Nat) (v : Int64) : lcL (lcUL z c k v) c' k' = if c' = c ∧ k' = k then v else lcL z c' k' := rfl
theorem lcL_UR (z : lc_S) (c k c' k' : Nat) (v : Option Nat) : lcL (lcUR z c k v) c' k' = lcL z c' k' := rfl
theorem lcR_UI (z : lc_S) (c k c' k' : Nat) (v : Int32) : lcR (lcUI z c k v) c' k' = lcR z c' k' := rfl
theorem lcR_UL (z : lc_S) (c k c' k' : Nat) (v : Int64) : lcR (lcUL z c k v) c' k' = lcR z c' k' := rfl
theorem lcR_UR (z : lc_S) (c k c' k' : Nat) (v : Option Nat) : lcR (lcUR z c k v) c' k' = if c' = c ∧ k' = k then v else lcR z c' k' := rfl
/-- a check ahead of a step -/
def lc_chk {α : Type} (q : Prop) [Decidable q] (a : Option α) : Option α := if q then a else none
theorem lc_chk_some {α : Type} {q : Prop} [Decidable q] {a : Option α} {r : α} (h : lc_chk q a = some r) : q ∧ a = some r := by
  unfold lc_chk at h
  by_cases hq : q
  · rw [if_pos hq] at h; exact ⟨hq, h⟩
  · rw [if_neg hq] at h; cases h
theorem lc_chk_pos {α : Type} {q : Prop} [Decidable q] {a : Option α} (h : q) : lc_chk q a = a := if_pos h
theorem lc_bind_some {α β : Type} {x : Option α} {f : α → Option β} {r : β} (h : x.bind f = some r) : ∃ a, x = some a ∧ f a = some r := by
  cases x with
  | none => cases h
  | some a => exact ⟨a, rfl, h⟩
abbrev lc_zok (x : Int32) : Prop := x = 0 ∨ x = 1
abbrev lc_in (i : Int32) (n : Nat) : Prop := ¬ (i < 0 ∨ n ≤ i.toNatClampNeg)
/-- how often a loop may turn -/
def lc_FU : Nat := 100000
def lc_bnd {α β : Type} (x : Option (α × lc_S)) (f : α → lc_S → Option β) : Option β := match x with
  | none => none
  | some (a, z) => f a z
theorem lc_bnd_some {α β : Type} {x : Option (α × lc_S)} {f : α → lc_S → Option β} {r : β} (h : lc_bnd x f = some r) : ∃ a z, x = some (a, z) ∧ f a z = some r := by
  cases x with
  | none => cases h
  | some q => exact ⟨q.1, q.2, rfl, h⟩
theorem lc_bnd_eq {α β : Type} {x : Option (α × lc_S)} {f : α → lc_S → Option β} {a : α} {z : lc_S} (h : x = some (a, z)) : lc_bnd x f = f a z := by subst h; rfl
def lc_let {α β : Type} (a : α) (f : α → β) : β := f a
theorem lc_let_of {α β : Type} {a x : α} {f : α → β} {r : β} (e : x = a) (h : lc_let a f = r) : f x = r := by subst e; exact h
def lc_bnr {β : Type} (x : Option Nat) (f : Nat → Option β) : Option β := match x with
  | none => none
  | some a => f a
theorem lc_bnr_some {β : Type} {x : Option Nat} {f : Nat → Option β} {r : β} (h : lc_bnr x f = some r) : ∃ a, x = some a ∧ f a = some r := by
  cases x with
  | none => cases h
  | some q => exact ⟨q, rfl, h⟩
theorem lc_bnr_eq {β : Type} {x : Option Nat} {f : Nat → Option β} {a : Nat} (h : x = some a) : lc_bnr x f = f a := by subst h; rfl
theorem lc_ite_pos {α : Type} {q : Prop} {_i : Decidable q} {a b r : α} (h : q) (hf : (if q then a else b) = r) : a = r := by rw [if_pos h] at hf; exact hf
theorem lc_ite_neg {α : Type} {q : Prop} {_i : Decidable q} {a b r : α} (h : ¬ q) (hf : (if q then a else b) = r) : b = r := by rw [if_neg h] at hf; exact hf
/-! the world: every cell, at its address, holds what the state says. LAYOUT (lc_shL, lc_fk, lc_tys, lc_NW, lc_ALL) stands ahead -/
def lc_sh (c : Nat) : Nat × Nat × Nat := lc_shL.getD c (9, 0, 0)
def lc_NC : Nat := lc_shL.length
theorem lc_sh_lt {c a b n : Nat} (h : lc_sh c = (a, b, n)) (ha : a ≠ 9) : c < lc_NC := by
  by_cases hc : c < lc_NC
  · exact hc
  · have h2 : lc_sh c = (9, 0, 0) := by
      unfold lc_sh
      rw [List.getD_eq_getElem?_getD, List.getElem?_eq_none (Nat.le_of_not_lt hc)]
      rfl
    rw [h2] at h
    exact absurd (congrArg Prod.fst h).symm ha
/-- the machine's names for the classes, the cells' addresses, the array classes, the first address of the system's own -/
abbrev lc_G : Type := (Nat → ClassId) × (Nat → Nat → Nat) × (Nat → Nat) × (Nat → ClassId) × Nat
abbrev lc_D (G : lc_G) : va_G := (G.1, G.2.1)
abbrev lc_ad (G : lc_G) : Nat → Nat := G.2.2.1
abbrev lc_cA (G : lc_G) : Nat → ClassId := G.2.2.2.1
abbrev lc_A (G : lc_G) : Nat → Prop := fun q => G.2.2.2.2 ≤ q
def lc_fv (G : lc_G) (z : lc_S) (c k kd : Nat) : Value := match kd with
  | 0 => .int (lcI z c k)
  | 1 => .long (lcL z c k)
  | 2 => va_rf ((lcR z c k).map (lc_ad G))
  | d + 3 => .ref (lc_ad G (c + d))
def lc_fs (G : lc_G) (z : lc_S) (c ci : Nat) : List Value := (lc_fk ci).mapIdx (fun k kd => lc_fv G z c k kd)
def lc_ct (G : lc_G) (z : lc_S) (c : Nat) : va_E := match lc_sh c with
  | (0, ci, _) => .inr (ci, lc_fs G z c ci)
  | (1, t, n) => .inl (lc_cA G t, n, .inl (fun j => lcI z c j))
  | (2, t, n) => .inl (lc_cA G t, n, .inr (.inl (fun j => lcL z c j)))
  | (_, t, n) => .inl (lc_cA G t, n, .inr (.inr (.inr (.inr (fun j => (lcR z c j).map (lc_ad G))))))
def lc_wd (G : lc_G) (z : lc_S) : va_W := (List.range lc_NC).map (fun c => (lc_ad G c, lc_ct G z c))
def lc_tysG (G : lc_G) : List (ClassId × FieldType) := lc_tys.mapIdx (fun t ty => (lc_cA G t, ty))
def lc_P (G : lc_G) (z : lc_S) (H : Heap) : Prop := va_P (lc_D G) lc_cl (lc_wd G z) H ∧ va_D (lc_A G) (lc_wd G z)
def lc_E (G : lc_G) (U : State) : Prop := va_K (lc_D G) lc_cl (lc_tysG G) U ∧ (∀ w ∈ lc_NW, va_Nw w U) ∧ va_AO "LinearCells$Procedure" U
def lc_H (G : lc_G) (z : lc_S) (H0 H : Heap) (locs : List Loc) : Prop := lc_P G z H ∧ va_S (lc_A G) H0 H locs
theorem lc_wd_at (G : lc_G) (z : lc_S) {c : Nat} (h : c < lc_NC) : (lc_wd G z)[c]? = some (lc_ad G c, lc_ct G z c) := by
  unfold lc_wd
  rw [List.getElem?_map, List.getElem?_range h]
  rfl
theorem lc_wd_len (G : lc_G) (z : lc_S) : (lc_wd G z).length = lc_NC := by unfold lc_wd; rw [List.length_map, List.length_range]
theorem lc_wd_out (G : lc_G) (z : lc_S) {c : Nat} (h : ¬ c < lc_NC) : (lc_wd G z)[c]? = none := List.getElem?_eq_none (by rw [lc_wd_len]; omega)
theorem lc_ct_obj {G : lc_G} {z : lc_S} {c ci n : Nat} (h : lc_sh c = (0, ci, n)) : lc_ct G z c = .inr (ci, lc_fs G z c ci) := by
  unfold lc_ct; rw [h]; rfl
theorem lc_ct_int {G : lc_G} {z : lc_S} {c t n : Nat} (h : lc_sh c = (1, t, n)) : lc_ct G z c = .inl (lc_cA G t, n, .inl (fun j => lcI z c j)) := by
  unfold lc_ct; rw [h]; rfl
theorem lc_ct_long {G : lc_G} {z : lc_S} {c t n : Nat} (h : lc_sh c = (2, t, n)) : lc_ct G z c = .inl (lc_cA G t, n, .inr (.inl (fun j => lcL z c j))) := by
  unfold lc_ct; rw [h]; rfl
theorem lc_ct_ref {G : lc_G} {z : lc_S} {c t n : Nat} (h : lc_sh c = (3, t, n)) : lc_ct G z c = .inl (lc_cA G t, n, .inr (.inr (.inr (.inr (fun j => (lcR z c j).map (lc_ad G)))))) := by
  unfold lc_ct; rw [h]; rfl
/-- another state that differs in one cell alone -/
theorem lc_wd_set (G : lc_G) (z z' : lc_S) {c : Nat} {e : va_E} (hc : c < lc_NC) (he : lc_ct G z' c = e) (ho : ∀ c', c' ≠ c → lc_ct G z' c' = lc_ct G z c') : (lc_wd G z).set c (lc_ad G c, e) = lc_wd G z' := by
  apply List.ext_getElem?
  intro i
  by_cases hi : i < lc_NC
  · rw [lc_wd_at G z' hi]
    by_cases h : i = c
    · subst h
      rw [List.getElem?_set_self (by rw [lc_wd_len]; exact hi), he]
    · rw [List.getElem?_set_ne (Ne.symm h), lc_wd_at G z hi, ho i h]
  · rw [lc_wd_out G z' hi, List.getElem?_eq_none (by rw [List.length_set, lc_wd_len]; omega)]
theorem lc_ct_ext (G : lc_G) {z z' : lc_S} {c : Nat} (hI : ∀ k, lcI z' c k = lcI z c k) (hL : ∀ k, lcL z' c k = lcL z c k) (hR : ∀ k, lcR z' c k = lcR z c k) : lc_ct G z' c = lc_ct G z c := by
  have hv : ∀ k kd, lc_fv G z' c k kd = lc_fv G z c k kd := by
    intro k kd
    unfold lc_fv
    split
    · rw [hI]
    · rw [hL]
    · rw [hR]
    · rfl
  have hfs : ∀ ci, lc_fs G z' c ci = lc_fs G z c ci := by
    intro ci
    unfold lc_fs
    congr 1
    funext k kd
    exact hv k kd
  unfold lc_ct
  split
  · rw [hfs]
  · simp only [hI]
  · simp only [hL]
  · simp only [hR]
theorem lc_fs_at (G : lc_G) (z : lc_S) (c : Nat) {ci k kd : Nat} (h : (lc_fk ci)[k]? = some kd) : (lc_fs G z c ci)[k]? = some (lc_fv G z c k kd) := by
  unfold lc_fs
  rw [List.getElem?_mapIdx, h]
  rfl
theorem lc_fs_len (G : lc_G) (z : lc_S) (c ci : Nat) : (lc_fs G z c ci).length = (lc_fk ci).length := by unfold lc_fs; rw [List.length_mapIdx]
/-- a field is put -/
theorem lc_fs_set (G : lc_G) (z z' : lc_S) (c : Nat) {ci k kd : Nat} {v : Value} (h : (lc_fk ci)[k]? = some kd) (hv : lc_fv G z' c k kd = v) (ho : ∀ j kj, j ≠ k → lc_fv G z' c j kj = lc_fv G z c j kj) : (lc_fs G z c ci).set k v = lc_fs G z' c ci := by
  apply List.ext_getElem?
  intro i
  have hk : k < (lc_fk ci).length := (List.getElem?_eq_some_iff.mp h).1
  by_cases hi : i = k
  · subst hi
    rw [List.getElem?_set_self (by rw [lc_fs_len]; exact hk), lc_fs_at G z' c h, hv]
  · rw [List.getElem?_set_ne (Ne.symm hi)]
    cases hj : (lc_fk ci)[i]? with
    | none =>
      rw [List.getElem?_eq_none (by rw [lc_fs_len]; exact List.getElem?_eq_none_iff.mp hj), List.getElem?_eq_none (by rw [lc_fs_len]; exact List.getElem?_eq_none_iff.mp hj)]
    | some kj => rw [lc_fs_at G z c hj, lc_fs_at G z' c hj, ho i kj hi]
theorem lc_h0 : lc_sh 0 = (2, 3, 1) := rfl
theorem lc_h1 : lc_sh 1 = (0, 0, 0) := rfl
theorem lc_h2 : lc_sh 2 = (1, 2, 120) := rfl
theorem lc_h3 : lc_sh 3 = (3, 4, 4) := rfl
theorem lc_h4 : lc_sh 4 = (0, 2, 0) := rfl
theorem lc_h5 : lc_sh 5 = (1, 0, 33) := rfl
theorem lc_h6 : lc_sh 6 = (1, 0, 33) := rfl
theorem lc_h7 : lc_sh 7 = (1, 0, 33) := rfl
theorem lc_h8 : lc_sh 8 = (0, 4, 0) := rfl
theorem lc_h9 : lc_sh 9 = (0, 3, 0) := rfl
theorem lc_h10 : lc_sh 10 = (1, 0, 243) := rfl
theorem lc_h11 : lc_sh 11 = (1, 0, 243) := rfl
theorem lc_h12 : lc_sh 12 = (1, 0, 243) := rfl
theorem lc_h13 : lc_sh 13 = (1, 1, 243) := rfl
theorem lc_h14 : lc_sh 14 = (1, 0, 5) := rfl
theorem lc_h15 : lc_sh 15 = (1, 0, 4) := rfl
theorem lc_h16 : lc_sh 16 = (1, 0, 4) := rfl
theorem lc_h17 : lc_sh 17 = (1, 0, 120) := rfl
theorem lc_h18 : lc_sh 18 = (1, 0, 120) := rfl
theorem lc_h19 : lc_sh 19 = (0, 6, 0) := rfl
theorem lc_h20 : lc_sh 20 = (0, 5, 0) := rfl
theorem lc_h21 : lc_sh 21 = (1, 1, 12) := rfl
theorem lc_h22 : lc_sh 22 = (1, 0, 12) := rfl
theorem lc_h23 : lc_sh 23 = (2, 3, 120) := rfl
theorem lc_h24 : lc_sh 24 = (2, 3, 120) := rfl
theorem lc_h25 : lc_sh 25 = (1, 0, 120) := rfl
theorem lc_h26 : lc_sh 26 = (1, 0, 120) := rfl
theorem lc_h27 : lc_sh 27 = (1, 1, 120) := rfl
theorem lc_h28 : lc_sh 28 = (1, 0, 120) := rfl
theorem lc_h29 : lc_sh 29 = (3, 4, 25) := rfl
theorem lc_h30 : lc_sh 30 = (2, 3, 600) := rfl
theorem lc_h31 : lc_sh 31 = (1, 0, 408) := rfl
theorem lc_h32 : lc_sh 32 = (1, 0, 408) := rfl
theorem lc_h33 : lc_sh 33 = (1, 0, 408) := rfl
theorem lc_h34 : lc_sh 34 = (2, 3, 408) := rfl
theorem lc_h35 : lc_sh 35 = (0, 1, 0) := rfl
theorem lc_h36 : lc_sh 36 = (1, 0, 62) := rfl
theorem lc_h37 : lc_sh 37 = (1, 0, 120) := rfl
theorem lc_h38 : lc_sh 38 = (1, 0, 120) := rfl
theorem lc_h39 : lc_sh 39 = (1, 0, 120) := rfl
theorem lc_h40 : lc_sh 40 = (1, 0, 120) := rfl
theorem lc_h41 : lc_sh 41 = (1, 0, 120) := rfl
theorem lc_h42 : lc_sh 42 = (1, 0, 120) := rfl
theorem lc_h43 : lc_sh 43 = (1, 0, 24) := rfl
theorem lc_h44 : lc_sh 44 = (0, 1, 0) := rfl
theorem lc_h45 : lc_sh 45 = (1, 0, 62) := rfl
theorem lc_h46 : lc_sh 46 = (1, 0, 120) := rfl
theorem lc_h47 : lc_sh 47 = (1, 0, 120) := rfl
theorem lc_h48 : lc_sh 48 = (1, 0, 120) := rfl
theorem lc_h49 : lc_sh 49 = (1, 0, 120) := rfl
theorem lc_h50 : lc_sh 50 = (1, 0, 120) := rfl
theorem lc_h51 : lc_sh 51 = (1, 0, 120) := rfl
theorem lc_h52 : lc_sh 52 = (1, 0, 24) := rfl
theorem lc_h53 : lc_sh 53 = (0, 1, 0) := rfl
theorem lc_h54 : lc_sh 54 = (1, 0, 62) := rfl
theorem lc_h55 : lc_sh 55 = (1, 0, 120) := rfl
theorem lc_h56 : lc_sh 56 = (1, 0, 120) := rfl
theorem lc_h57 : lc_sh 57 = (1, 0, 120) := rfl
theorem lc_h58 : lc_sh 58 = (1, 0, 120) := rfl
theorem lc_h59 : lc_sh 59 = (1, 0, 120) := rfl
theorem lc_h60 : lc_sh 60 = (1, 0, 120) := rfl
theorem lc_h61 : lc_sh 61 = (1, 0, 24) := rfl
theorem lc_h62 : lc_sh 62 = (0, 1, 0) := rfl
theorem lc_h63 : lc_sh 63 = (1, 0, 62) := rfl
theorem lc_h64 : lc_sh 64 = (1, 0, 120) := rfl
theorem lc_h65 : lc_sh 65 = (1, 0, 120) := rfl
theorem lc_h66 : lc_sh 66 = (1, 0, 120) := rfl
theorem lc_h67 : lc_sh 67 = (1, 0, 120) := rfl
theorem lc_h68 : lc_sh 68 = (1, 0, 120) := rfl
theorem lc_h69 : lc_sh 69 = (1, 0, 120) := rfl
theorem lc_h70 : lc_sh 70 = (1, 0, 24) := rfl
theorem lc_h71 : lc_sh 71 = (0, 1, 0) := rfl
theorem lc_h72 : lc_sh 72 = (1, 0, 62) := rfl
theorem lc_h73 : lc_sh 73 = (1, 0, 120) := rfl
theorem lc_h74 : lc_sh 74 = (1, 0, 120) := rfl
theorem lc_h75 : lc_sh 75 = (1, 0, 120) := rfl
theorem lc_h76 : lc_sh 76 = (1, 0, 120) := rfl
theorem lc_h77 : lc_sh 77 = (1, 0, 120) := rfl
theorem lc_h78 : lc_sh 78 = (1, 0, 120) := rfl
theorem lc_h79 : lc_sh 79 = (1, 0, 24) := rfl
theorem lc_h80 : lc_sh 80 = (0, 7, 0) := rfl
theorem lc_h81 : lc_sh 81 = (1, 0, 120) := rfl
theorem lc_h82 : lc_sh 82 = (1, 0, 600) := rfl
theorem lc_h83 : lc_sh 83 = (1, 0, 600) := rfl
theorem lc_h84 : lc_sh 84 = (1, 0, 600) := rfl
theorem lc_h85 : lc_sh 85 = (1, 0, 600) := rfl
theorem lc_h86 : lc_sh 86 = (1, 0, 600) := rfl
theorem lc_h87 : lc_sh 87 = (1, 0, 600) := rfl
theorem lc_h88 : lc_sh 88 = (1, 1, 600) := rfl
theorem lc_h89 : lc_sh 89 = (1, 0, 5) := rfl
theorem lc_h90 : lc_sh 90 = (1, 0, 600) := rfl
theorem lc_h91 : lc_sh 91 = (1, 0, 600) := rfl
theorem lc_h92 : lc_sh 92 = (1, 0, 24) := rfl
theorem lc_h93 : lc_sh 93 = (1, 0, 24) := rfl
theorem lc_h94 : lc_sh 94 = (1, 0, 64) := rfl
theorem lc_h95 : lc_sh 95 = (1, 0, 64) := rfl
theorem lc_h96 : lc_sh 96 = (1, 1, 64) := rfl
theorem lc_h97 : lc_sh 97 = (1, 0, 128) := rfl
theorem lc_h98 : lc_sh 98 = (1, 0, 340) := rfl
theorem lc_h99 : lc_sh 99 = (1, 0, 340) := rfl
theorem lc_h100 : lc_sh 100 = (1, 0, 120) := rfl
theorem lc_h101 : lc_sh 101 = (1, 0, 4) := rfl
theorem lc_h102 : lc_sh 102 = (1, 0, 4) := rfl
theorem lc_h103 : lc_sh 103 = (1, 0, 120) := rfl
theorem lc_h104 : lc_sh 104 = (1, 0, 120) := rfl
theorem lc_h105 : lc_sh 105 = (1, 0, 430) := rfl
theorem lc_h106 : lc_sh 106 = (1, 0, 430) := rfl
theorem lc_h107 : lc_sh 107 = (1, 0, 430) := rfl
theorem lc_h108 : lc_sh 108 = (1, 0, 430) := rfl
theorem lc_h109 : lc_sh 109 = (1, 0, 430) := rfl
theorem lc_h110 : lc_sh 110 = (2, 3, 430) := rfl
theorem lc_h111 : lc_sh 111 = (1, 0, 2100) := rfl
theorem lc_h112 : lc_sh 112 = (1, 1, 2100) := rfl
theorem lc_h113 : lc_sh 113 = (2, 3, 2100) := rfl
theorem lc_h114 : lc_sh 114 = (1, 0, 2100) := rfl
theorem lc_h115 : lc_sh 115 = (1, 1, 12) := rfl
theorem lc_h116 : lc_sh 116 = (1, 0, 12) := rfl
theorem lc_h117 : lc_sh 117 = (2, 3, 120) := rfl
theorem lc_h118 : lc_sh 118 = (2, 3, 120) := rfl
theorem lc_h119 : lc_sh 119 = (1, 0, 130) := rfl
theorem lc_h120 : lc_sh 120 = (1, 1, 340) := rfl
theorem lc_h121 : lc_sh 121 = (1, 0, 340) := rfl
theorem lc_pr1 {o : Nat} (h : lc_sh o = (0, 1, 0)) : lc_sh (o + 1) = (1, 0, 62) :=
  (show ∀ o, o < lc_NC → lc_sh o = (0, 1, 0) → lc_sh (o + 1) = (1, 0, 62) by decide +kernel) o (lc_sh_lt h (by decide)) h
theorem lc_pr2 {o : Nat} (h : lc_sh o = (0, 1, 0)) : lc_sh (o + 2) = (1, 0, 120) :=
  (show ∀ o, o < lc_NC → lc_sh o = (0, 1, 0) → lc_sh (o + 2) = (1, 0, 120) by decide +kernel) o (lc_sh_lt h (by decide)) h
theorem lc_pr3 {o : Nat} (h : lc_sh o = (0, 1, 0)) : lc_sh (o + 3) = (1, 0, 120) :=
  (show ∀ o, o < lc_NC → lc_sh o = (0, 1, 0) → lc_sh (o + 3) = (1, 0, 120) by decide +kernel) o (lc_sh_lt h (by decide)) h
theorem lc_pr4 {o : Nat} (h : lc_sh o = (0, 1, 0)) : lc_sh (o + 4) = (1, 0, 120) :=
  (show ∀ o, o < lc_NC → lc_sh o = (0, 1, 0) → lc_sh (o + 4) = (1, 0, 120) by decide +kernel) o (lc_sh_lt h (by decide)) h
theorem lc_pr5 {o : Nat} (h : lc_sh o = (0, 1, 0)) : lc_sh (o + 5) = (1, 0, 120) :=
  (show ∀ o, o < lc_NC → lc_sh o = (0, 1, 0) → lc_sh (o + 5) = (1, 0, 120) by decide +kernel) o (lc_sh_lt h (by decide)) h
theorem lc_pr6 {o : Nat} (h : lc_sh o = (0, 1, 0)) : lc_sh (o + 6) = (1, 0, 120) :=
  (show ∀ o, o < lc_NC → lc_sh o = (0, 1, 0) → lc_sh (o + 6) = (1, 0, 120) by decide +kernel) o (lc_sh_lt h (by decide)) h
theorem lc_pr7 {o : Nat} (h : lc_sh o = (0, 1, 0)) : lc_sh (o + 7) = (1, 0, 120) :=
  (show ∀ o, o < lc_NC → lc_sh o = (0, 1, 0) → lc_sh (o + 7) = (1, 0, 120) by decide +kernel) o (lc_sh_lt h (by decide)) h
theorem lc_pr8 {o : Nat} (h : lc_sh o = (0, 1, 0)) : lc_sh (o + 8) = (1, 0, 24) :=
  (show ∀ o, o < lc_NC → lc_sh o = (0, 1, 0) → lc_sh (o + 8) = (1, 0, 24) by decide +kernel) o (lc_sh_lt h (by decide)) h
theorem lc_tys_at (G : lc_G) {t : Nat} {ty : FieldType} (h : lc_tys[t]? = some ty) : (lc_tysG G)[t]? = some (lc_cA G t, ty) := by
  unfold lc_tysG
  rw [List.getElem?_mapIdx, h]
  rfl
/-- the field of a place of the constant pool: class ci's slot k -/
def lc_FL (own : String) (idx ci k : Nat) : Prop := ∃ (C : String) (T : u_T) (N : Nat), lc_cl[ci]? = some (C, T, N) ∧ (∀ w ∈ u_ws C T N, w ∈ lc_ALL) ∧ k < N ∧ Cond.fieldLink own idx (T k).1 (T k).2.1 (T k).2.2.1 ∈ lc_ALL
def lc_FP (own : String) (idx ci k : Nat) (ty : FieldType) : Prop := ∃ (C : String) (T : u_T) (N : Nat) (ty0 : Nat → FieldType), lc_cl[ci]? = some (C, T, N) ∧ (∀ w ∈ u_ws C T N, w ∈ lc_ALL) ∧ (∀ k, k < N → parseFieldDescriptor (T k).2.2.1 = some (ty0 k)) ∧ (∀ a, a < N → ∀ b, b < N → a ≠ b → (T a).2.1 ≠ (T b).2.1) ∧ k < N ∧ Cond.fieldLink own idx (T k).1 (T k).2.1 (T k).2.2.1 ∈ lc_ALL ∧ (T k).2.2.2 = false ∧ ty0 k = ty
section LCR
variable {p : Program} {l : Launch} {e : Env} {R : Room} {s : State} {m : MethodId} {args : Array Value} {below : List Frame} {meth : Method} {c : Code} {H : Heap} {locs : List Loc} {cells slots : Nat} {Q : State → Prop}
variable {cc : ByteArray} {pc : Nat} {ls : Array Slot} {rest : List Value} {G : lc_G} {z : lc_S} {H0 : Heap}
theorem lc_get (hx : p.tables.exec = Jvm.exec) (hb : c.code = cc) {own : String} {idx ci k kd o n : Nat} {v : Value} (hts : ∀ w ∈ lc_ALL, w.before args s = true) (hown : s.vm.findClass own = some m.cls) (hE : lc_E G s) (hH : lc_H G z H0 H locs) (hf : lc_FL own idx ci k) (ho : lc_sh o = (0, ci, n)) (hk : (lc_fk ci)[k]? = some kd) (hv : lc_fv G z o k kd = v) (hd : decode cc pc = .ok (.getfield idx, 3))
    (kk : W p l e R s m args below meth c H locs cells slots Q (F0 m (pc + 3) ls (v :: rest))) : W p l e R s m args below meth c H locs cells slots Q (F0 m pc ls (.ref (lc_ad G o) :: rest)) := by
  obtain ⟨C, T, N, h1, h2, h3, h4⟩ := hf
  have hlt := lc_sh_lt ho (by decide)
  exact va_get (fs := lc_fs G z o ci) (v := v) hx hb hts h2 hown hE.1 hH.1.1 o (by rw [lc_wd_at G z hlt, lc_ct_obj ho]) h1 k h3 (hts _ h4) (fun _ h => h) (by rw [lc_fs_at G z o hk, hv]) hd kk
theorem lc_geti (hx : p.tables.exec = Jvm.exec) (hb : c.code = cc) {own : String} {idx ci k o n : Nat} (hts : ∀ w ∈ lc_ALL, w.before args s = true) (hown : s.vm.findClass own = some m.cls) (hE : lc_E G s) (hH : lc_H G z H0 H locs) (hf : lc_FL own idx ci k) (ho : lc_sh o = (0, ci, n)) (hk : (lc_fk ci)[k]? = some 0) (hd : decode cc pc = .ok (.getfield idx, 3))
    (kk : W p l e R s m args below meth c H locs cells slots Q (F0 m (pc + 3) ls (.int (lcI z o k) :: rest))) : W p l e R s m args below meth c H locs cells slots Q (F0 m pc ls (.ref (lc_ad G o) :: rest)) := lc_get hx hb hts hown hE hH hf ho hk rfl hd kk
theorem lc_getl (hx : p.tables.exec = Jvm.exec) (hb : c.code = cc) {own : String} {idx ci k o n : Nat} (hts : ∀ w ∈ lc_ALL, w.before args s = true) (hown : s.vm.findClass own = some m.cls) (hE : lc_E G s) (hH : lc_H G z H0 H locs) (hf : lc_FL own idx ci k) (ho : lc_sh o = (0, ci, n)) (hk : (lc_fk ci)[k]? = some 1) (hd : decode cc pc = .ok (.getfield idx, 3))
    (kk : W p l e R s m args below meth c H locs cells slots Q (F0 m (pc + 3) ls (.long (lcL z o k) :: rest))) : W p l e R s m args below meth c H locs cells slots Q (F0 m pc ls (.ref (lc_ad G o) :: rest)) := lc_get hx hb hts hown hE hH hf ho hk rfl hd kk
theorem lc_getr (hx : p.tables.exec = Jvm.exec) (hb : c.code = cc) {own : String} {idx ci k o n q : Nat} (hts : ∀ w ∈ lc_ALL, w.before args s = true) (hown : s.vm.findClass own = some m.cls) (hE : lc_E G s) (hH : lc_H G z H0 H locs) (hf : lc_FL own idx ci k) (ho : lc_sh o = (0, ci, n)) (hk : (lc_fk ci)[k]? = some 2) (hq : lcR z o k = some q) (hd : decode cc pc = .ok (.getfield idx, 3))
    (kk : W p l e R s m args below meth c H locs cells slots Q (F0 m (pc + 3) ls (.ref (lc_ad G q) :: rest))) : W p l e R s m args below meth c H locs cells slots Q (F0 m pc ls (.ref (lc_ad G o) :: rest)) := lc_get hx hb hts hown hE hH hf ho hk (by unfold lc_fv; rw [hq]; rfl) hd kk
theorem lc_getf (hx : p.tables.exec = Jvm.exec) (hb : c.code = cc) {own : String} {idx ci k o n d q : Nat} (hts : ∀ w ∈ lc_ALL, w.before args s = true) (hown : s.vm.findClass own = some m.cls) (hE : lc_E G s) (hH : lc_H G z H0 H locs) (hf : lc_FL own idx ci k) (ho : lc_sh o = (0, ci, n)) (hk : (lc_fk ci)[k]? = some (d + 3)) (hq : o + d = q) (hd : decode cc pc = .ok (.getfield idx, 3))
    (kk : W p l e R s m args below meth c H locs cells slots Q (F0 m (pc + 3) ls (.ref (lc_ad G q) :: rest))) : W p l e R s m args below meth c H locs cells slots Q (F0 m pc ls (.ref (lc_ad G o) :: rest)) := lc_get hx hb hts hown hE hH hf ho hk (by subst hq; rfl) hd kk
theorem lc_putc (hx : p.tables.exec = Jvm.exec) (hb : c.code = cc) {own : String} {idx ci k kd o n : Nat} {v : Value} {ty : FieldType} {z' : lc_S} (hts : ∀ w ∈ lc_ALL, w.before args s = true) (hown : s.vm.findClass own = some m.cls) (hE : lc_E G s) (hH : lc_H G z H0 H locs) (hf : lc_FP own idx ci k ty) (ho : lc_sh o = (0, ci, n)) (hk : (lc_fk ci)[k]? = some kd) (hv : lc_fv G z' o k kd = v) (hn : narrow ty v = v) (hfit : fits ty v = true)
    (h1 : ∀ j kj, j ≠ k → lc_fv G z' o j kj = lc_fv G z o j kj) (h2 : ∀ c', c' ≠ o → lc_ct G z' c' = lc_ct G z c') (hd : decode cc pc = .ok (.putfield idx, 3))
    (kk : ∀ (H1 : Heap) (locs1 : List Loc), lc_H G z' H0 H1 locs1 → W p l e R s m args below meth c H1 locs1 cells slots Q (F0 m (pc + 3) ls rest)) : W p l e R s m args below meth c H locs cells slots Q (F0 m pc ls (v :: .ref (lc_ad G o) :: rest)) := by
  obtain ⟨C, T, N, ty0, q1, q2, q3, q4, q5, q6, q7, q8⟩ := hf
  subst q8
  have hlt := lc_sh_lt ho (by decide)
  have hset : (lc_wd G z).set o (lc_ad G o, .inr (ci, (lc_fs G z o ci).set k v)) = lc_wd G z' := lc_wd_set G z z' hlt (by rw [lc_ct_obj ho, lc_fs_set G z z' o hk hv h1]) h2
  refine va_put (fs := lc_fs G z o ci) (v := v) hx hb hts q2 ty0 q3 q4 hown hE.1 hH.1.1 hH.1.2 hH.2 o (by rw [lc_wd_at G z hlt, lc_ct_obj ho]) q1 k q5 (hts _ q6) (fun _ h => h) q7 (q3 k q5) hn hfit (by rw [lc_fs_len]; exact (List.getElem?_eq_some_iff.mp hk).1) hd (fun H1 locs1 hP hD hS => ?_)
  rw [hset] at hP hD
  exact kk H1 locs1 ⟨⟨hP, hD⟩, hS⟩
theorem lc_puti (hx : p.tables.exec = Jvm.exec) (hb : c.code = cc) {own : String} {idx ci k o n : Nat} {x : Int32} {ty : FieldType} (hts : ∀ w ∈ lc_ALL, w.before args s = true) (hown : s.vm.findClass own = some m.cls) (hE : lc_E G s) (hH : lc_H G z H0 H locs) (hf : lc_FP own idx ci k ty) (ho : lc_sh o = (0, ci, n)) (hk : (lc_fk ci)[k]? = some 0) (hn : narrow ty (.int x) = .int x) (hfit : fits ty (.int x) = true) (hd : decode cc pc = .ok (.putfield idx, 3))
    (kk : ∀ (H1 : Heap) (locs1 : List Loc), lc_H G (lcUI z o k x) H0 H1 locs1 → W p l e R s m args below meth c H1 locs1 cells slots Q (F0 m (pc + 3) ls rest)) : W p l e R s m args below meth c H locs cells slots Q (F0 m pc ls (.int x :: .ref (lc_ad G o) :: rest)) := by
  refine lc_putc (z' := lcUI z o k x) hx hb hts hown hE hH hf ho hk ?_ hn hfit ?_ ?_ hd kk
  · show Value.int (lcI (lcUI z o k x) o k) = .int x
    rw [lcI_UI, if_pos ⟨rfl, rfl⟩]
  · intro j kj hj
    unfold lc_fv
    split
    · rw [lcI_UI, if_neg (fun h => hj h.2)]
    · rw [lcL_UI]
    · rw [lcR_UI]
    · rfl
  · intro c' hc'
    exact lc_ct_ext G (fun k' => by rw [lcI_UI, if_neg (fun h => hc' h.1)]) (fun k' => lcL_UI ..) (fun k' => lcR_UI ..)
theorem lc_putl (hx : p.tables.exec = Jvm.exec) (hb : c.code = cc) {own : String} {idx ci k o n : Nat} {x : Int64} (hts : ∀ w ∈ lc_ALL, w.before args s = true) (hown : s.vm.findClass own = some m.cls) (hE : lc_E G s) (hH : lc_H G z H0 H locs) (hf : lc_FP own idx ci k .long) (ho : lc_sh o = (0, ci, n)) (hk : (lc_fk ci)[k]? = some 1) (hd : decode cc pc = .ok (.putfield idx, 3))
    (kk : ∀ (H1 : Heap) (locs1 : List Loc), lc_H G (lcUL z o k x) H0 H1 locs1 → W p l e R s m args below meth c H1 locs1 cells slots Q (F0 m (pc + 3) ls rest)) : W p l e R s m args below meth c H locs cells slots Q (F0 m pc ls (.long x :: .ref (lc_ad G o) :: rest)) := by
  refine lc_putc (z' := lcUL z o k x) hx hb hts hown hE hH hf ho hk ?_ rfl rfl ?_ ?_ hd kk
  · show Value.long (lcL (lcUL z o k x) o k) = .long x
    rw [lcL_UL, if_pos ⟨rfl, rfl⟩]
  · intro j kj hj
    unfold lc_fv
    split
    · rw [lcI_UL]
    · rw [lcL_UL, if_neg (fun h => hj h.2)]
    · rw [lcR_UL]
    · rfl
  · intro c' hc'
    exact lc_ct_ext G (fun k' => lcI_UL ..) (fun k' => by rw [lcL_UL, if_neg (fun h => hc' h.1)]) (fun k' => lcR_UL ..)
theorem lc_putr (hx : p.tables.exec = Jvm.exec) (hb : c.code = cc) {own : String} {idx ci k o n q : Nat} {ty : FieldType} (hts : ∀ w ∈ lc_ALL, w.before args s = true) (hown : s.vm.findClass own = some m.cls) (hE : lc_E G s) (hH : lc_H G z H0 H locs) (hf : lc_FP own idx ci k ty) (ho : lc_sh o = (0, ci, n)) (hk : (lc_fk ci)[k]? = some 2) (hn : ∀ a : Nat, narrow ty (.ref a) = .ref a) (hfit : ∀ a : Nat, fits ty (.ref a) = true) (hd : decode cc pc = .ok (.putfield idx, 3))
    (kk : ∀ (H1 : Heap) (locs1 : List Loc), lc_H G (lcUR z o k (some q)) H0 H1 locs1 → W p l e R s m args below meth c H1 locs1 cells slots Q (F0 m (pc + 3) ls rest)) : W p l e R s m args below meth c H locs cells slots Q (F0 m pc ls (.ref (lc_ad G q) :: .ref (lc_ad G o) :: rest)) := by
  refine lc_putc (z' := lcUR z o k (some q)) hx hb hts hown hE hH hf ho hk ?_ (hn _) (hfit _) ?_ ?_ hd kk
  · show va_rf ((lcR (lcUR z o k (some q)) o k).map (lc_ad G)) = .ref (lc_ad G q)
    rw [lcR_UR, if_pos ⟨rfl, rfl⟩]
    rfl
  · intro j kj hj
    unfold lc_fv
    split
    · rw [lcI_UR]
    · rw [lcL_UR]
    · rw [lcR_UR, if_neg (fun h => hj h.2)]
    · rfl
  · intro c' hc'
    exact lc_ct_ext G (fun k' => lcI_UR ..) (fun k' => lcL_UR ..) (fun k' => by rw [lcR_UR, if_neg (fun h => hc' h.1)])
theorem lc_iald (hx : p.tables.exec = Jvm.exec) (hb : c.code = cc) (hE : lc_E G s) (hH : lc_H G z H0 H locs) {o t n : Nat} {i : Int32} (ho : lc_sh o = (1, t, n)) (ht : lc_tys[t]? = some .int) (hin : lc_in i n) (hd : decode cc pc = .ok (.iaload, 1))
    (kk : W p l e R s m args below meth c H locs cells slots Q (F0 m (pc + 1) ls (.int (lcI z o i.toNatClampNeg) :: rest))) : W p l e R s m args below meth c H locs cells slots Q (F0 m pc ls (.int i :: .ref (lc_ad G o) :: rest)) :=
  va_iald hx hb hE.1 hH.1.1 o t (by rw [lc_wd_at G z (lc_sh_lt ho (by decide)), lc_ct_int ho]) (lc_tys_at G ht) hin hd kk
theorem lc_zald (hx : p.tables.exec = Jvm.exec) (hb : c.code = cc) (hE : lc_E G s) (hH : lc_H G z H0 H locs) {o t n : Nat} {i : Int32} (ho : lc_sh o = (1, t, n)) (ht : lc_tys[t]? = some .boolean) (hin : lc_in i n) (hd : decode cc pc = .ok (.baload, 1))
    (kk : W p l e R s m args below meth c H locs cells slots Q (F0 m (pc + 1) ls (.int (lcI z o i.toNatClampNeg) :: rest))) : W p l e R s m args below meth c H locs cells slots Q (F0 m pc ls (.int i :: .ref (lc_ad G o) :: rest)) :=
  va_zald hx hb hE.1 hH.1.1 o t (by rw [lc_wd_at G z (lc_sh_lt ho (by decide)), lc_ct_int ho]) (lc_tys_at G ht) hin hd kk
theorem lc_cald (hx : p.tables.exec = Jvm.exec) (hb : c.code = cc) (hE : lc_E G s) (hH : lc_H G z H0 H locs) {o t n : Nat} {i : Int32} (ho : lc_sh o = (1, t, n)) (ht : lc_tys[t]? = some .char) (hin : lc_in i n) (hd : decode cc pc = .ok (.caload, 1))
    (kk : W p l e R s m args below meth c H locs cells slots Q (F0 m (pc + 1) ls (.int (lcI z o i.toNatClampNeg) :: rest))) : W p l e R s m args below meth c H locs cells slots Q (F0 m pc ls (.int i :: .ref (lc_ad G o) :: rest)) :=
  va_cald hx hb hE.1 hH.1.1 o t (by rw [lc_wd_at G z (lc_sh_lt ho (by decide)), lc_ct_int ho]) (lc_tys_at G ht) hin hd kk
theorem lc_lald (hx : p.tables.exec = Jvm.exec) (hb : c.code = cc) (hE : lc_E G s) (hH : lc_H G z H0 H locs) {o t n : Nat} {i : Int32} (ho : lc_sh o = (2, t, n)) (ht : lc_tys[t]? = some .long) (hin : lc_in i n) (hd : decode cc pc = .ok (.laload, 1))
    (kk : W p l e R s m args below meth c H locs cells slots Q (F0 m (pc + 1) ls (.long (lcL z o i.toNatClampNeg) :: rest))) : W p l e R s m args below meth c H locs cells slots Q (F0 m pc ls (.int i :: .ref (lc_ad G o) :: rest)) :=
  va_lald hx hb hE.1 hH.1.1 o t (by rw [lc_wd_at G z (lc_sh_lt ho (by decide)), lc_ct_long ho]) (lc_tys_at G ht) hin hd kk
theorem lc_aald (hx : p.tables.exec = Jvm.exec) (hb : c.code = cc) (hE : lc_E G s) (hH : lc_H G z H0 H locs) {o t n q : Nat} {i : Int32} {C : String} (ho : lc_sh o = (3, t, n)) (ht : lc_tys[t]? = some (.object C)) (hin : lc_in i n) (hq : lcR z o i.toNatClampNeg = some q) (hd : decode cc pc = .ok (.aaload, 1))
    (kk : W p l e R s m args below meth c H locs cells slots Q (F0 m (pc + 1) ls (.ref (lc_ad G q) :: rest))) : W p l e R s m args below meth c H locs cells slots Q (F0 m pc ls (.int i :: .ref (lc_ad G o) :: rest)) :=
  va_aldq hx hb hE.1 hH.1.1 o t (by rw [lc_wd_at G z (lc_sh_lt ho (by decide)), lc_ct_ref ho]) (lc_tys_at G ht) hin hd (by rw [hq]; exact kk)
theorem lc_set_int {G : lc_G} {z : lc_S} {o t n k : Nat} {x : Int32} (ho : lc_sh o = (1, t, n)) : (lc_wd G z).set o (lc_ad G o, .inl (lc_cA G t, n, .inl (upd (fun j => lcI z o j) k x))) = lc_wd G (lcUI z o k x) := by
  refine lc_wd_set G z _ (lc_sh_lt ho (by decide)) ?_ ?_
  · rw [lc_ct_int ho]
    congr 4
    funext j
    rw [lcI_UI]
    unfold upd
    by_cases hj : j = k
    · rw [if_pos ⟨rfl, hj⟩, if_pos hj]
    · rw [if_neg (fun h => hj h.2), if_neg hj]
  · intro c' hc'
    exact lc_ct_ext G (fun k' => by rw [lcI_UI, if_neg (fun h => hc' h.1)]) (fun k' => lcL_UI ..) (fun k' => lcR_UI ..)
theorem lc_iast (hx : p.tables.exec = Jvm.exec) (hb : c.code = cc) (hE : lc_E G s) (hH : lc_H G z H0 H locs) {o t n : Nat} {i x : Int32} (ho : lc_sh o = (1, t, n)) (ht : lc_tys[t]? = some .int) (hin : lc_in i n) (hd : decode cc pc = .ok (.iastore, 1))
    (kk : ∀ (H1 : Heap) (locs1 : List Loc), lc_H G (lcUI z o i.toNatClampNeg x) H0 H1 locs1 → W p l e R s m args below meth c H1 locs1 cells slots Q (F0 m (pc + 1) ls rest)) : W p l e R s m args below meth c H locs cells slots Q (F0 m pc ls (.int x :: .int i :: .ref (lc_ad G o) :: rest)) := by
  refine va_iast hx hb hE.1 hH.1.1 hH.1.2 hH.2 o t (by rw [lc_wd_at G z (lc_sh_lt ho (by decide)), lc_ct_int ho]) (lc_tys_at G ht) hin hd (fun H1 locs1 hP hD hS => ?_)
  rw [lc_set_int ho] at hP hD
  exact kk H1 locs1 ⟨⟨hP, hD⟩, hS⟩
theorem lc_zast (hx : p.tables.exec = Jvm.exec) (hb : c.code = cc) (hE : lc_E G s) (hH : lc_H G z H0 H locs) {o t n : Nat} {i x : Int32} (ho : lc_sh o = (1, t, n)) (ht : lc_tys[t]? = some .boolean) (hin : lc_in i n) (hn : vp_nar .boolean x = x) (hd : decode cc pc = .ok (.bastore, 1))
    (kk : ∀ (H1 : Heap) (locs1 : List Loc), lc_H G (lcUI z o i.toNatClampNeg x) H0 H1 locs1 → W p l e R s m args below meth c H1 locs1 cells slots Q (F0 m (pc + 1) ls rest)) : W p l e R s m args below meth c H locs cells slots Q (F0 m pc ls (.int x :: .int i :: .ref (lc_ad G o) :: rest)) := by
  refine va_zast hx hb hE.1 hH.1.1 hH.1.2 hH.2 o t (by rw [lc_wd_at G z (lc_sh_lt ho (by decide)), lc_ct_int ho]) (lc_tys_at G ht) hin hd (fun H1 locs1 hP hD hS => ?_)
  rw [hn, lc_set_int ho] at hP hD
  exact kk H1 locs1 ⟨⟨hP, hD⟩, hS⟩
theorem lc_cast (hx : p.tables.exec = Jvm.exec) (hb : c.code = cc) (hE : lc_E G s) (hH : lc_H G z H0 H locs) {o t n : Nat} {i x : Int32} (ho : lc_sh o = (1, t, n)) (ht : lc_tys[t]? = some .char) (hin : lc_in i n) (hn : vp_nar .char x = x) (hd : decode cc pc = .ok (.castore, 1))
    (kk : ∀ (H1 : Heap) (locs1 : List Loc), lc_H G (lcUI z o i.toNatClampNeg x) H0 H1 locs1 → W p l e R s m args below meth c H1 locs1 cells slots Q (F0 m (pc + 1) ls rest)) : W p l e R s m args below meth c H locs cells slots Q (F0 m pc ls (.int x :: .int i :: .ref (lc_ad G o) :: rest)) := by
  refine va_cast hx hb hE.1 hH.1.1 hH.1.2 hH.2 o t (by rw [lc_wd_at G z (lc_sh_lt ho (by decide)), lc_ct_int ho]) (lc_tys_at G ht) hin hd (fun H1 locs1 hP hD hS => ?_)
  rw [hn, lc_set_int ho] at hP hD
  exact kk H1 locs1 ⟨⟨hP, hD⟩, hS⟩
theorem lc_last (hx : p.tables.exec = Jvm.exec) (hb : c.code = cc) (hE : lc_E G s) (hH : lc_H G z H0 H locs) {o t n : Nat} {i : Int32} {x : Int64} (ho : lc_sh o = (2, t, n)) (ht : lc_tys[t]? = some .long) (hin : lc_in i n) (hd : decode cc pc = .ok (.lastore, 1))
    (kk : ∀ (H1 : Heap) (locs1 : List Loc), lc_H G (lcUL z o i.toNatClampNeg x) H0 H1 locs1 → W p l e R s m args below meth c H1 locs1 cells slots Q (F0 m (pc + 1) ls rest)) : W p l e R s m args below meth c H locs cells slots Q (F0 m pc ls (.long x :: .int i :: .ref (lc_ad G o) :: rest)) := by
  refine va_last hx hb hE.1 hH.1.1 hH.1.2 hH.2 o t (by rw [lc_wd_at G z (lc_sh_lt ho (by decide)), lc_ct_long ho]) (lc_tys_at G ht) hin hd (fun H1 locs1 hP hD hS => ?_)
  have hset : (lc_wd G z).set o (lc_ad G o, .inl (lc_cA G t, n, .inr (.inl (vp_updL (fun j => lcL z o j) i.toNatClampNeg x)))) = lc_wd G (lcUL z o i.toNatClampNeg x) := by
    refine lc_wd_set G z _ (lc_sh_lt ho (by decide)) ?_ ?_
    · rw [lc_ct_long ho]
      congr 5
      funext j
      rw [lcL_UL]
      unfold vp_updL
      by_cases hj : j = i.toNatClampNeg
      · rw [if_pos ⟨rfl, hj⟩, if_pos hj]
      · rw [if_neg (fun h => hj h.2), if_neg hj]
    · intro c' hc'
      exact lc_ct_ext G (fun k' => lcI_UL ..) (fun k' => by rw [lcL_UL, if_neg (fun h => hc' h.1)]) (fun k' => lcR_UL ..)
  rw [hset] at hP hD
  exact kk H1 locs1 ⟨⟨hP, hD⟩, hS⟩
theorem lc_aast (hx : p.tables.exec = Jvm.exec) (hb : c.code = cc) (hE : lc_E G s) (hH : lc_H G z H0 H locs) {o t n q ci n' : Nat} {i : Int32} {r : vw_C} (ho : lc_sh o = (3, t, n)) (ht : lc_tys[t]? = some (.object r.1)) (hq : lc_sh q = (0, ci, n')) (hc : lc_cl[ci]? = some r) (hin : lc_in i n) (hd : decode cc pc = .ok (.aastore, 1))
    (kk : ∀ (H1 : Heap) (locs1 : List Loc), lc_H G (lcUR z o i.toNatClampNeg (some q)) H0 H1 locs1 → W p l e R s m args below meth c H1 locs1 cells slots Q (F0 m (pc + 1) ls rest)) : W p l e R s m args below meth c H locs cells slots Q (F0 m pc ls (.ref (lc_ad G q) :: .int i :: .ref (lc_ad G o) :: rest)) := by
  refine va_astq hx hb hE.1 hH.1.1 hH.1.2 hH.2 o t q ci (by rw [lc_wd_at G z (lc_sh_lt ho (by decide)), lc_ct_ref ho]) (lc_tys_at G ht) (by rw [lc_wd_at G z (lc_sh_lt hq (by decide)), lc_ct_obj hq]) hc hin hd (fun H1 locs1 hP hD hS => ?_)
  have hset : (lc_wd G z).set o (lc_ad G o, .inl (lc_cA G t, n, .inr (.inr (.inr (.inr (va_up (fun j => (lcR z o j).map (lc_ad G)) i.toNatClampNeg (some (lc_ad G q)))))))) = lc_wd G (lcUR z o i.toNatClampNeg (some q)) := by
    refine lc_wd_set G z _ (lc_sh_lt ho (by decide)) ?_ ?_
    · rw [lc_ct_ref ho]
      congr 7
      funext j
      rw [lcR_UR]
      unfold va_up
      by_cases hj : j = i.toNatClampNeg
      · rw [if_pos ⟨rfl, hj⟩, if_pos hj]; rfl
      · rw [if_neg (fun h => hj h.2), if_neg hj]
    · intro c' hc'
      exact lc_ct_ext G (fun k' => lcI_UR ..) (fun k' => lcL_UR ..) (fun k' => by rw [lcR_UR, if_neg (fun h => hc' h.1)])
  rw [hset] at hP hD
  exact kk H1 locs1 ⟨⟨hP, hD⟩, hS⟩
end LCR
def lc_rm (h : Nat) : Room := { frames := h, cells := 0, slots := 0, locals := 64 * h }
def lc_Pre (G : lc_G) (av : List Value) (z : lc_S) : Array Value → State → Prop := va_Pc av (fun U => lc_P G z U.heap ∧ lc_E G U)
def lc_Q (G : lc_G) (rv : Option Value) (z' : lc_S) : Array Value → State → Outcome → State → Prop := fun _ st oc t => (oc = .returned rv ∧ lc_P G z' t.heap) ∧ va_F (lc_A G) st t
def lc_M (l : Launch) (G : lc_G) (y : MethodName) (ws : List Cond) (h : Nat) (av : List Value) (z : lc_S) (rv : Option Value) (z' : lc_S) : Prop := Met l y ws (lc_rm h) (lc_Pre G av z) (lc_Q G rv z') 0 0 (lc_A G)
theorem lc_E.warm {G : lc_G} {s U : State} (hW : s.WarmedH U.vm) (h : lc_E G s) : lc_E G U := ⟨va_K.moved hW.alike h.1, lc_NW_warm hW h.2.1, h.2.2.moved hW.alike⟩
theorem lc_E.call {G : lc_G} {U : State} (g : JFrame) (mk : MethodId) (a : Array Value) (h : lc_E G U) : lc_E G (U.calling g mk a) :=
  ⟨va_K.moved (u := U) (U := U.calling g mk a) (Vm.Alike.refl U.vm) h.1, fun w hw => va_Nw.same (lc_NW_tab w hw) (u := U) (U := U.calling g mk a) rfl (h.2.1 w hw), h.2.2.moved (u := U) (U := U.calling g mk a) (Vm.Alike.refl U.vm)⟩
theorem lc_blind (G : lc_G) (av : List Value) (z : lc_S) : FrameBlind (lc_Pre G av z) := by
  intro a U g mk q
  obtain ⟨q0, q1, q2⟩ := q
  exact ⟨q0, q1, lc_E.call g mk a q2⟩
theorem lc_M_of {l : Launch} {G : lc_G} {y : MethodName} {ws ws' : List Cond} {h : Nat} {av : List Value} {z z' : lc_S} {rv : Option Value} {cc : ByteArray} {maxL : Nat} {ret : Option FieldType} {own : String}
    (hy : plainName y.cls = true) (hw : ws = Cond.code y cc maxL ret :: ws') (hin : ∀ w ∈ lc_ALL, w ∈ ws) (hlen : (lg_sl av).length ≤ maxL) (hcl : y.cls = own)
    (body : ∀ (p : Program) (e : Env) (s : State) (m : MethodId) (below : List Frame) (meth : Method) (c : Code), p.tables.exec = Jvm.exec → c.code = cc → c.maxLocals = maxL → meth.sig.returnType = ret → meth.locks = false → s.vm.findClass own = some m.cls → (∀ w ∈ lc_ALL, w.before av.toArray s = true) → lc_E G s →
      ∀ ls : Array Slot, lv_has ls maxL (lv_args 0 av) → lc_H G z s.heap s.heap [] → W p l e (lc_rm h) s m av.toArray below meth c s.heap [] 0 0 (MQ below (lc_Q G rv z') av.toArray s 0 0 (lc_A G)) (F0 m 0 ls [])) : lc_M l G y ws h av z rv z' := by
  refine Met.ofW (cc := cc) (maxL := maxL) (ret := ret) hy hw ?_
  intro p e s m args below meth c s₁ B hml hv
  obtain ⟨rfl, hP, hE⟩ := hv
  have hts0 := atoms_spec (ws := ws) B.pre
  have hown : s.vm.findClass y.cls = some m.cls := findClass_of_methodNamed B.named
  rw [hcl] at hown
  have hl := lv_entry av (n := maxL) hlen
  rw [lg_entry_eq]
  exact body p e s m below meth c B.exec B.bytes hml B.returns B.notSynchronized hown (fun w h => hts0 w (hin w h)) hE _ hl ⟨hP, va_S.rf⟩
section LCC
variable {p : Program} {l : Launch} {e : Env} {R : Room} {s : State} {m : MethodId} {args : Array Value} {below : List Frame} {meth : Method} {c : Code} {H : Heap} {locs : List Loc} {cells slots : Nat} {Q : State → Prop}
variable {cc : ByteArray} {pc : Nat} {ls : Array Slot} {rest st0 : List Value} {G : lc_G} {z z' : lc_S} {H0 : Heap} {a : Array Value} {rv : Option Value}
theorem lc_call (hr : va_Run p l e R s m args below meth c H locs cells slots 0 0 (F0 m pc ls st0) rest (lc_Q G rv z' a) (lc_A G)) (hH : lc_H G z H0 H locs)
    (kk : ∀ (H1 : Heap) (locs1 : List Loc), lc_H G z' H0 H1 locs1 → W p l e R s m args below meth c H1 locs1 cells slots Q (F0 m (pc + 3) ls (rv.toList ++ rest))) : W p l e R s m args below meth c H locs cells slots Q (F0 m pc ls st0) := by
  intro T hT X
  obtain ⟨v, st₀, t, T', L, h0, X', hL, e1, e2, ⟨⟨hv, hp⟩, hz, hk⟩, st⟩ := hr T hT X
  cases hv
  rw [h0] at hz hk
  have hS := hH.2
  obtain ⟨t2, a1, b1⟩ := kk T'.heap (locs ++ L) ⟨by rw [e1]; exact hp, Nat.le_trans hS.1 (by rw [e1]; exact hz), fun q h1 h2 => by rw [e1, hk q (Nat.lt_of_lt_of_le h1 hS.1) h2]; exact hS.2.1 q h1 h2, fun q hq => by
      rcases List.mem_append.mp hq with h | h
      · exact hS.2.2 q h
      · exact hL q h⟩ T' rfl X'
  exact ⟨t2, st t2 a1, b1⟩
theorem lc_calli {r : Int32} (hr : va_Run p l e R s m args below meth c H locs cells slots 0 0 (F0 m pc ls st0) rest (lc_Q G (some (.int r)) z' a) (lc_A G)) (hH : lc_H G z H0 H locs)
    (kk : ∀ (H1 : Heap) (locs1 : List Loc), lc_H G z' H0 H1 locs1 → W p l e R s m args below meth c H1 locs1 cells slots Q (F0 m (pc + 3) ls (.int r :: rest))) : W p l e R s m args below meth c H locs cells slots Q (F0 m pc ls st0) := lc_call hr hH kk
theorem lc_calll {r : Int64} (hr : va_Run p l e R s m args below meth c H locs cells slots 0 0 (F0 m pc ls st0) rest (lc_Q G (some (.long r)) z' a) (lc_A G)) (hH : lc_H G z H0 H locs)
    (kk : ∀ (H1 : Heap) (locs1 : List Loc), lc_H G z' H0 H1 locs1 → W p l e R s m args below meth c H1 locs1 cells slots Q (F0 m (pc + 3) ls (.long r :: rest))) : W p l e R s m args below meth c H locs cells slots Q (F0 m pc ls st0) := lc_call hr hH kk
theorem lc_calla {r : Nat} (hr : va_Run p l e R s m args below meth c H locs cells slots 0 0 (F0 m pc ls st0) rest (lc_Q G (some (.ref (lc_ad G r))) z' a) (lc_A G)) (hH : lc_H G z H0 H locs)
    (kk : ∀ (H1 : Heap) (locs1 : List Loc), lc_H G z' H0 H1 locs1 → W p l e R s m args below meth c H1 locs1 cells slots Q (F0 m (pc + 3) ls (.ref (lc_ad G r) :: rest))) : W p l e R s m args below meth c H locs cells slots Q (F0 m pc ls st0) := lc_call hr hH kk
theorem lc_callv (hr : va_Run p l e R s m args below meth c H locs cells slots 0 0 (F0 m pc ls st0) rest (lc_Q G none z' a) (lc_A G)) (hH : lc_H G z H0 H locs)
    (kk : ∀ (H1 : Heap) (locs1 : List Loc), lc_H G z' H0 H1 locs1 → W p l e R s m args below meth c H1 locs1 cells slots Q (F0 m (pc + 3) ls rest)) : W p l e R s m args below meth c H locs cells slots Q (F0 m pc ls st0) := lc_call hr hH kk
theorem lc_preS (hE : lc_E G s) (hH : lc_H G z H0 H locs) (As : List Value) : PreS s H (lc_Pre G As z) As := ⟨lc_blind G As z, fun U hU hW => ⟨rfl, by rw [hU]; exact hH.1, lc_E.warm hW hE⟩⟩
theorem lc_preV (hE : lc_E G s) (hH : lc_H G z H0 H locs) {o ci n N : Nat} {C : String} {T : u_T} (ho : lc_sh o = (0, ci, n)) (hc : lc_cl[ci]? = some (C, T, N)) (As : List Value) : PreV s H C (lc_ad G o) (lc_Pre G (.ref (lc_ad G o) :: As) z) As :=
  ⟨lc_blind G _ z, va_recv (q := (C, T, N)) hE.1 hH.1.1 hc (q0 := o) (by rw [lc_wd_at G z (lc_sh_lt ho (by decide)), lc_ct_obj ho]), fun U hU hW => ⟨rfl, by rw [hU]; exact hH.1, lc_E.warm hW hE⟩⟩
theorem lc_iret (hx : p.tables.exec = Jvm.exec) (hb : c.code = cc) (hr : meth.sig.returnType = some .int) (hlocks : meth.locks = false) {x r : Int32} (hH : lc_H G z s.heap H locs) (hf : some (x, z) = some (r, z')) (hd : decode cc pc = .ok (.ireturn, 1)) : W p l e R s m args below meth c H locs cells slots (MQ below (lc_Q G (some (.int r)) z') args s cells slots (lc_A G)) (F0 m pc ls [.int x]) := by
  cases hf
  exact W.iret hx hb hr (fun t ht hW => ⟨⟨rfl, by rw [ht]; exact hH.1⟩, hH.2.F ht⟩) hH.2.2.2 hd hlocks
theorem lc_zret (hx : p.tables.exec = Jvm.exec) (hb : c.code = cc) (hr : meth.sig.returnType = some .boolean) (hlocks : meth.locks = false) {x r : Int32} (hn : narrow .boolean (.int x) = .int x) (hH : lc_H G z s.heap H locs) (hf : some (x, z) = some (r, z')) (hd : decode cc pc = .ok (.ireturn, 1)) : W p l e R s m args below meth c H locs cells slots (MQ below (lc_Q G (some (.int r)) z') args s cells slots (lc_A G)) (F0 m pc ls [.int x]) := by
  cases hf
  exact W.zret hx hb hr hn (fun t ht hW => ⟨⟨rfl, by rw [ht]; exact hH.1⟩, hH.2.F ht⟩) hH.2.2.2 hd hlocks
theorem lc_lret (hx : p.tables.exec = Jvm.exec) (hb : c.code = cc) (hr : meth.sig.returnType = some .long) (hlocks : meth.locks = false) {x r : Int64} (hH : lc_H G z s.heap H locs) (hf : some (x, z) = some (r, z')) (hd : decode cc pc = .ok (.lreturn, 1)) : W p l e R s m args below meth c H locs cells slots (MQ below (lc_Q G (some (.long r)) z') args s cells slots (lc_A G)) (F0 m pc ls [.long x]) := by
  cases hf
  exact W.lret hx hb hr (fun t ht hW => ⟨⟨rfl, by rw [ht]; exact hH.1⟩, hH.2.F ht⟩) hH.2.2.2 hd hlocks
theorem lc_vret (hx : p.tables.exec = Jvm.exec) (hb : c.code = cc) (hr : meth.sig.returnType = none) (hlocks : meth.locks = false) {x r : Unit} (hH : lc_H G z s.heap H locs) (hf : some (x, z) = some (r, z')) (hd : decode cc pc = .ok (.return_, 1)) : W p l e R s m args below meth c H locs cells slots (MQ below (lc_Q G none z') args s cells slots (lc_A G)) (F0 m pc ls []) := by
  cases hf
  exact W.vret hx hb hr (fun t ht hW => ⟨⟨rfl, by rw [ht]; exact hH.1⟩, hH.2.F ht⟩) hH.2.2.2 hd hlocks
theorem lc_aret (hx : p.tables.exec = Jvm.exec) (hb : c.code = cc) {rt : FieldType} (hr : meth.sig.returnType = some rt) (hrt : (∃ n, rt = .object n) ∨ ∃ t, rt = .array t) (hlocks : meth.locks = false) {x r : Nat} (hH : lc_H G z s.heap H locs) (hf : some (x, z) = some (r, z')) (hd : decode cc pc = .ok (.areturn, 1)) : W p l e R s m args below meth c H locs cells slots (MQ below (lc_Q G (some (.ref (lc_ad G r))) z') args s cells slots (lc_A G)) (F0 m pc ls [.ref (lc_ad G x)]) := by
  cases hf
  exact W.aret hx hb hr hrt (Or.inr ⟨_, rfl⟩) (fun t ht hW => ⟨⟨rfl, by rw [ht]; exact hH.1⟩, hH.2.F ht⟩) hH.2.2.2 hd hlocks
end LCC
theorem lc_good : GoodIn lc_ALL lc_ALL := fun _ h => ⟨h, good_of_word (List.mem_filter.mp h).2⟩
theorem lc_goodc {y : MethodName} {cc : ByteArray} {maxL : Nat} {ret : Option FieldType} (h : Cond.code y cc maxL ret ∈ lc_ALL) : GoodIn lc_ALL (Cond.code y cc maxL ret :: lc_ALL) := fun w hw => (List.mem_cons.mp hw).elim (fun e => by subst e; exact lc_good _ h) (fun hw => lc_good w hw)
theorem lc_room {h h' maxL : Nat} (hh : h + 1 ≤ h') (hm : maxL ≤ 45) : (lc_rm h).frames + 1 ≤ (lc_rm h').frames ∧ 8 + (maxL + 11) + (lc_rm h).locals ≤ (lc_rm h').locals := by
  simp only [lc_rm]; omega
def lc_KS (own : String) (idx : Nat) (y : MethodName) (cc : ByteArray) (maxL : Nat) (ret : Option FieldType) (n : Nat) : Prop := Cond.code y cc maxL ret ∈ lc_ALL ∧ Cond.methodLink own idx y ∈ lc_ALL ∧ Cond.static y ∈ lc_ALL ∧ Cond.initialized y.cls ∈ lc_ALL ∧ y.cls ≠ "java/lang/invoke/MethodHandle" ∧ y.cls ≠ "java/lang/invoke/VarHandle" ∧ (parseMethodDescriptor y.desc).map (fun d => d.parameters.length) = some n
def lc_KV (own : String) (idx : Nat) (y : MethodName) (cc : ByteArray) (maxL : Nat) (ret : Option FieldType) (n : Nat) : Prop := Cond.code y cc maxL ret ∈ lc_ALL ∧ Cond.methodLink own idx y ∈ lc_ALL ∧ Cond.instanceMethod y ∈ lc_ALL ∧ Cond.selects y.cls y y ∈ lc_ALL ∧ Cond.initialized y.cls ∈ lc_ALL ∧ y.cls ≠ "java/lang/invoke/MethodHandle" ∧ y.cls ≠ "java/lang/invoke/VarHandle" ∧ (parseMethodDescriptor y.desc).map (fun d => d.parameters.length) = some n
def lc_KN (own : String) (idx : Nat) (y : MethodName) (host : String) (cc : ByteArray) (maxL : Nat) (ret : Option FieldType) (n : Nat) : Prop := Cond.code y cc maxL ret ∈ lc_ALL ∧ Cond.methodLinkNest own idx y host ∈ lc_NW ∧ Cond.static y ∈ lc_ALL ∧ Cond.initialized y.cls ∈ lc_ALL ∧ y.cls ≠ "java/lang/invoke/MethodHandle" ∧ y.cls ≠ "java/lang/invoke/VarHandle" ∧ (parseMethodDescriptor y.desc).map (fun d => d.parameters.length) = some n
section LCW
variable {R : Room} {s : State} {args : Array Value} {own host : String} {idx maxL n h : Nat} {y : MethodName} {cc : ByteArray} {ret : Option FieldType} {G : lc_G}
theorem lc_cwS (hts : ∀ w ∈ lc_ALL, w.before args s = true) (k : lc_KS own idx y cc maxL ret n) (hR : (lc_rm h).frames + 1 ≤ R.frames ∧ 8 + (maxL + 11) + (lc_rm h).locals ≤ R.locals) : CallB R s args own idx y cc maxL ret (Cond.code y cc maxL ret :: lc_ALL) (lc_rm h) 0 0 n ∧ (Cond.static y).before args s = true :=
  ⟨callB_of n hts (lc_goodc k.1) rfl rfl rfl (hts _ k.2.2.2.1) (hts _ k.2.1) k.2.2.2.2 hR, hts _ k.2.2.1⟩
theorem lc_cwV (hts : ∀ w ∈ lc_ALL, w.before args s = true) (k : lc_KV own idx y cc maxL ret n) (hR : (lc_rm h).frames + 1 ≤ R.frames ∧ 8 + (maxL + 11) + (lc_rm h).locals ≤ R.locals) : CallW R s args own y.cls idx y cc maxL ret (Cond.code y cc maxL ret :: lc_ALL) (lc_rm h) 0 0 n :=
  ⟨callB_of n hts (lc_goodc k.1) rfl rfl rfl (hts _ k.2.2.2.2.1) (hts _ k.2.1) k.2.2.2.2.2 hR, hts _ k.2.2.1, hts _ k.2.2.2.1⟩
theorem lc_cwN (hts : ∀ w ∈ lc_ALL, w.before args s = true) (hE : lc_E G s) (k : lc_KN own idx y host cc maxL ret n) (hR : (lc_rm h).frames + 1 ≤ R.frames ∧ 8 + (maxL + 11) + (lc_rm h).locals ≤ R.locals) : va_CN R s args own idx y host cc maxL ret (Cond.code y cc maxL ret :: lc_ALL) (lc_rm h) 0 0 n ∧ (Cond.static y).before args s = true ∧ True :=
  ⟨va_cnB n hts (lc_goodc k.1) rfl rfl rfl (hE.2.1 _ k.2.1) (hts _ k.2.2.2.1) k.2.2.2.2 hR, hts _ k.2.2.1, trivial⟩
end LCW
theorem lc_incv (x : Int32) {n : Int} {k : Int32} (h : Int32.ofInt n = k) : x + Int32.ofInt n = x + k := by rw [h]
theorem lc_zn {x : Int32} (h : lc_zok x) : narrow .boolean (.int x) = .int x := by rcases h with rfl | rfl <;> decide
theorem lc_zf {x : Int32} (h : lc_zok x) : fits .boolean (.int x) = true := by rcases h with rfl | rfl <;> decide
def lc_FT : Nat := 7
def lc_FE : Nat := 19

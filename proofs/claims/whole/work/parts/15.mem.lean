/-! THE CELLS behind the constructors: each number's kind (an array: type and length; an object: class, and for each field the cell that it names, or none for an int), and all numbers in them as one function. -/
abbrev vI (z : Int) : mm_V := .inl z
abbrev vJ (z : Int) : mm_V := .inr (.inl z)
abbrev vP (a : Nat) : mm_V := .inr (.inr (some a))
abbrev mk_K : Type := (Nat × Nat) ⊕ (Nat × List (Option Nat))
def mk_tab : List mk_K := [.inr (9, [some 3, some 5, some 7, some 9, some 11, some 17, some 22, some 25, some 30, some 34]), .inr (7, [some 4, none]), .inl (0, 400), .inr (7, [some 6, none]), .inl (0, 300), .inr (7, [some 8, none]), .inl (0, 300), .inr (7, [some 10, none]), .inl (0, 300), .inr (8, [some 12, some 13, some 14, some 15, some 16, none]), .inl (0, 200), .inl (0, 200), .inl (0, 200), .inl (0, 200), .inl (0, 800), .inr (4, [some 18, some 19, some 20, some 21, none]), .inl (0, 100), .inl (0, 100), .inl (0, 100), .inl (1, 100), .inr (6, [some 23, some 24, none]), .inl (0, 100), .inl (0, 100), .inr (5, [some 26, some 27, some 28, some 29, none]), .inl (0, 200), .inl (0, 200), .inl (0, 200), .inl (0, 200), .inr (1, [some 17, some 22, some 31, some 32]), .inl (0, 128), .inr (7, [some 33, none]), .inl (0, 300), .inr (0, [some 11, some 30, some 35, some 40, some 42, some 44, some 46, some 50, some 51, some 53, none, none, none]), .inr (2, [some 11, some 22, some 25, some 36, some 38, none]), .inr (7, [some 37, none]), .inl (0, 300), .inr (7, [some 39, none]), .inl (0, 300), .inr (7, [some 41, none]), .inl (0, 300), .inr (7, [some 43, none]), .inl (0, 300), .inr (7, [some 45, none]), .inl (0, 300), .inr (3, [some 47, some 49, none]), .inr (7, [some 48, none]), .inl (0, 300), .inl (0, 301), .inl (0, 301), .inr (7, [some 52, none]), .inl (0, 1200), .inr (7, [some 54, none]), .inl (0, 1200), .inr (10, [none, some 56, none, some 57, none, none, some 58, some 59, some 60, some 61, some 62, none, some 63, some 64, some 65, some 66, none, some 67, some 68, none, some 69, some 70, some 71, some 72, some 73, none, none, some 74, none, some 75, some 76, none, some 77, some 78, none, some 79, none, none, none, none, none, some 80, none, none, some 81, some 82, some 83, some 84, none, some 85, none, some 86, some 87]), .inl (2, 400), .inl (0, 300), .inl (0, 200), .inl (0, 200), .inl (0, 200), .inl (0, 800), .inl (0, 200), .inl (0, 100), .inl (0, 100), .inl (0, 100), .inl (1, 100), .inl (0, 100), .inl (0, 100), .inl (0, 200), .inl (0, 200), .inl (0, 200), .inl (0, 200), .inl (0, 400), .inl (0, 301), .inl (0, 400), .inl (0, 301), .inl (0, 300), .inl (0, 2600), .inl (0, 301), .inl (0, 305), .inl (0, 2000), .inl (0, 402), .inl (0, 402), .inl (2, 8000), .inl (2, 8000), .inl (0, 301), .inl (0, 402)]
def kd (L : Nat) (a : Nat) : mk_K := match a with
  | 0 => .inl (37879, 88)
  | 1 => .inl (3, L)
  | a + 2 => mk_tab.getD a (.inr (99, []))
def fl : List (Option Nat) → (Nat → Int) → Nat → List mm_V
  | [], _, _ => []
  | none :: r, f, k => vI (f k) :: fl r f (k + 1)
  | some a :: r, f, k => vP a :: fl r f (k + 1)
abbrev mk_S : Type := Nat → Nat → Int
def hp (L : Nat) (σ : mk_S) : mm_H := fun a => match kd L a with
  | .inl (t, n) => .inl (t, n, σ a)
  | .inr (c, fs) => .inr (c, fl fs (σ a) 0)
def sto (σ : mk_S) (a k : Nat) (z : Int) : mk_S := fun b => if b = a then mm_st (σ a) k z else σ b
theorem sto_at (σ : mk_S) (a k : Nat) (z : Int) : sto σ a k z a = mm_st (σ a) k z := if_pos rfl
theorem sto_ne {σ : mk_S} {a k : Nat} {z : Int} {b : Nat} (h : b ≠ a) : sto σ a k z b = σ b := if_neg h
theorem st_at (f : Nat → Int) (k : Nat) (z : Int) : mm_st f k z k = z := if_pos rfl
theorem st_ne {f : Nat → Int} {k : Nat} {z : Int} {j : Nat} (h : j ≠ k) : mm_st f k z j = f j := if_neg h
theorem sto_get (σ : mk_S) (a k : Nat) (z : Int) : sto σ a k z a k = z := by rw [sto_at, st_at]
theorem sto_get2 {σ : mk_S} {a k : Nat} {z : Int} {b j : Nat} (h : b ≠ a ∨ j ≠ k) : sto σ a k z b j = σ b j := by
  by_cases e : b = a
  · subst e
    rw [sto_at, st_ne (h.resolve_left (fun q => q rfl))]
  · rw [sto_ne e]
theorem fl_get : ∀ (fs : List (Option Nat)) (f : Nat → Int) (k j : Nat), (fl fs f k)[j]? = match fs[j]? with
    | some none => some (vI (f (k + j)))
    | some (some a) => some (vP a)
    | none => none
  | [], f, k, j => by simp [fl]
  | none :: r, f, k, 0 => by simp [fl]
  | some a :: r, f, k, 0 => by simp [fl]
  | none :: r, f, k, j + 1 => by
    simp only [fl, List.getElem?_cons_succ]
    rw [fl_get r f (k + 1) j, show k + 1 + j = k + (j + 1) by omega]
  | some a :: r, f, k, j + 1 => by
    simp only [fl, List.getElem?_cons_succ]
    rw [fl_get r f (k + 1) j, show k + 1 + j = k + (j + 1) by omega]
theorem fl_congr : ∀ (fs : List (Option Nat)) (f g : Nat → Int) (k : Nat), (∀ j, k ≤ j → f j = g j) → fl fs f k = fl fs g k
  | [], _, _, _, _ => rfl
  | none :: r, f, g, k, h => by simp only [fl]; rw [h k (Nat.le_refl k), fl_congr r f g (k + 1) (fun j hj => h j (by omega))]
  | some a :: r, f, g, k, h => by simp only [fl]; rw [fl_congr r f g (k + 1) (fun j hj => h j (by omega))]
theorem fl_set : ∀ (fs : List (Option Nat)) (f : Nat → Int) (k j : Nat) (z : Int), fs[j]? = some none → (fl fs f k).set j (vI z) = fl fs (mm_st f (k + j) z) k
  | [], f, k, j, z, h => by simp at h
  | none :: r, f, k, 0, z, h => by
    simp only [fl, List.set_cons_zero, Nat.add_zero, st_at]
    rw [fl_congr r f (mm_st f k z) (k + 1) (fun j hj => (st_ne (by omega)).symm)]
  | some a :: r, f, k, 0, z, h => by simp at h
  | none :: r, f, k, j + 1, z, h => by
    simp only [List.getElem?_cons_succ] at h
    simp only [fl, List.set_cons_succ]
    rw [fl_set r f (k + 1) j z h, show k + 1 + j = k + (j + 1) by omega, st_ne (by omega)]
  | some a :: r, f, k, j + 1, z, h => by
    simp only [List.getElem?_cons_succ] at h
    simp only [fl, List.set_cons_succ]
    rw [fl_set r f (k + 1) j z h, show k + 1 + j = k + (j + 1) by omega]
theorem fl_len : ∀ (fs : List (Option Nat)) (f : Nat → Int) (k : Nat), (fl fs f k).length = fs.length
  | [], _, _ => rfl
  | none :: r, f, k => by simp only [fl, List.length_cons, fl_len r]
  | some a :: r, f, k => by simp only [fl, List.length_cons, fl_len r]
theorem hp_obj {L : Nat} {σ : mk_S} {a ci : Nat} {fs : List (Option Nat)} (h : kd L a = .inr (ci, fs)) : hp L σ a = .inr (ci, fl fs (σ a) 0) := by
  unfold hp; rw [h]
theorem hp_arr {L : Nat} {σ : mk_S} {a t n : Nat} (h : kd L a = .inl (t, n)) : hp L σ a = .inl (t, n, σ a) := by
  unfold hp; rw [h]
theorem hp_objq {L : Nat} {σ : mk_S} {a ci : Nat} {fs : List (Option Nat)} (h : kd L a = .inr (ci, fs)) : mm_obj (hp L σ) (some a) ci = some (fl fs (σ a) 0) := by
  simp only [mm_obj, hp_obj h, if_true]
theorem hp_arrq {L : Nat} {σ : mk_S} {a t n : Nat} (h : kd L a = .inl (t, n)) : mm_arr (hp L σ) (some a) = some (t, n, σ a) := by
  simp only [mm_arr, hp_arr h]
theorem hp_put {L : Nat} {σ : mk_S} {a ci k : Nat} {fs : List (Option Nat)} {z : Int} (h : kd L a = .inr (ci, fs)) (hf : fs[k]? = some none) : mm_up (hp L σ) a (.inr (ci, (fl fs (σ a) 0).set k (vI z))) = hp L (sto σ a k z) := by
  funext b
  by_cases e : b = a
  · subst e
    simp only [mm_up, if_true]
    rw [hp_obj h, fl_set fs _ 0 k z hf, sto_at, Nat.zero_add]
  · simp only [mm_up, if_neg e]
    unfold hp
    rw [sto_ne e]
theorem hp_sta {L : Nat} {σ : mk_S} {a t n j : Nat} {z : Int} (h : kd L a = .inl (t, n)) : mm_up (hp L σ) a (.inl (t, n, mm_st (σ a) j z)) = hp L (sto σ a j z) := by
  funext b
  by_cases e : b = a
  · subst e
    simp only [mm_up, if_true]
    rw [hp_arr h, sto_at]
  · simp only [mm_up, if_neg e]
    unfold hp
    rw [sto_ne e]
theorem w32_id {z : Int} (h : -2147483648 ≤ z ∧ z ≤ 2147483647) : mm_w32 z = z := by unfold mm_w32; omega
theorem w64_id {z : Int} (h : -9223372036854775808 ≤ z ∧ z ≤ 9223372036854775807) : mm_w64 z = z := by unfold mm_w64; omega
/-- a call: of method m, with its arguments -/
def mm_call (m : Nat) (vs : List mm_V) (h : mm_H) (Q : Option mm_V → mm_H → Prop) : Prop := (mm_spread vs).length ≤ mm_maxL m ∧ mm_X m 0 (mm_pad (mm_maxL m) (mm_spread vs)) [] h Q

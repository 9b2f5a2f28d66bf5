/-! ===== ints by field and place ===== -/
abbrev rh_Wm : Type := Nat → Nat → Int32
def wm (w : rh_Wm) (q j : Nat) (x : Int32) : rh_Wm := va_up w q (va_up (w q) j x)
theorem wm_at (w : rh_Wm) (q j : Nat) (x : Int32) (a b : Nat) : wm w q j x a b = if a = q ∧ b = j then x else w a b := by
  by_cases h1 : a = q
  · subst h1
    by_cases h2 : b = j <;> simp [wm, va_up, h2]
  · simp [wm, va_up, h1]
theorem wm_row (w : rh_Wm) (q j : Nat) (x : Int32) : wm w q j x q = va_up (w q) j x := by simp [wm, va_up]
theorem wm_other (w : rh_Wm) (q j : Nat) (x : Int32) {a : Nat} (h : a ≠ q) : wm w q j x a = w a := by simp [wm, va_up, h]
/-- the ints at first -/
def m_w1 (i : Nat) : rh_Wm := fun q j => if q = 0 ∧ j < i then 60 else if q = 1 ∧ j < i then 10 else if q = 3 ∧ j < i then 1000 else 0
def m_w2 (i : Nat) : rh_Wm := fun q j => if q = 18 ∧ j < i then 1 else m_w1 4 q j

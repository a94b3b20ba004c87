/-- what holds of class and reference between two calls (iv3: their states are one: to be told) -/
def iv3 (h : mm_H) : Prop := h.1 = 114
def iv (h : mm_H) : Prop := h.2.1 2 = .inr 8 ∧ h.2.1 65 = .inr 9 ∧ iv3 h

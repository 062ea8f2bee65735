/-- a name for what is used more than once -/
def zlet {α β : Type} (a : α) (f : α → β) : β := f a
theorem zlet_of {α β : Type} {a : α} {f : α → Option β} {q : β} (h : zlet a f = some q) : ∃ x, a = x ∧ f x = some q := ⟨a, rfl, h⟩

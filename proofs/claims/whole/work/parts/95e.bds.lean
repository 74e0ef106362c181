/-! PURE: binds of what is there -/
theorem bd2_s {α β γ : Type} (a : α) (b : β) (f : α → β → Option γ) : bd2 (some (a, b)) f = f a b := rfl
theorem bd3_s {α β γ δ : Type} (a : α) (b : β) (c : γ) (f : α → β → γ → Option δ) : bd3 (some (a, b, c)) f = f a b c := rfl
theorem bd4_s {α β γ δ ε : Type} (a : α) (b : β) (c : γ) (d : δ) (f : α → β → γ → δ → Option ε) : bd4 (some (a, b, c, d)) f = f a b c d := rfl
theorem nm_s {α β : Type} (e : α) (f : α → Option β) : nm e f = f e := rfl
theorem bd2_id {α β : Type} (o : Option (α × β)) : bd2 o (fun a b => some (a, b)) = o := by
  cases o <;> rfl
